abbrev RM_X8_swap : Room := { frames := 4, cells := 0, slots := 0, locals := 90 }
theorem iw_X8_swap_8 : ∀ w ∈ wsX80, w ∈ wsX8_swap := fun w h => List.mem_cons_of_mem _ (List.mem_append_left _ (List.mem_append_left _ (List.mem_append_left _ (List.mem_append_right _ (h)))))
def wp_X8_swap (g : tw_G) (σ : tw_S) (a0 : Nat) (Q : Int32 → tw_S → Prop) : Prop := wp_X2_remember g σ (tw_R g a0 1) (tw_R g a0 0) (fun σ1 => wp_X0_at g σ1 (tw_R g a0 0) (0 : Int32) (fun y3 σ2 => wp_X0_at g σ2 (tw_R g a0 0) (1 : Int32) (fun y5 σ4 => wp_X3_isLike g σ4 y3 y5 (fun r7 σ6 => wp_X0_changePlaces g σ6 (tw_R g a0 0) (tw_R g a0 5) (fun σ8 => ((r7 = 0) → Q (1 : Int32) σ8) ∧ (¬ (r7 = 0) → Q (0 : Int32) σ8))))))
set_option maxHeartbeats 4000000 in
set_option maxRecDepth 100000 in
theorem ct_X8_swap (l : Launch) (D : va_G) (g : tw_G) (hT : tw_T g) (sz : Nat) (σ : tw_S) (a0 : Nat) (h0 : tw_is g 8 a0) (Q : Int32 → tw_S → Prop) (h : wp_X8_swap g σ a0 Q) : tw_Mi l yX8_swap wsX8_swap RM_X8_swap D g sz σ [.ref a0] Q := by
  refine Met.ofW (cc := cX8_swap) (maxL := 2) (ret := (some .int)) (by decide) rfl ?_
  intro p e s m args below meth c s₁ B hml hv
  obtain ⟨rfl, hsz, hP, hK, hD0⟩ := hv
  subst hsz
  have hr := B.returns
  have hlk := B.notSynchronized
  have X : CallFix p m c cX8_swap 2 s _ wsX8_swap RX8 := ⟨B.exec, B.bytes, hml, findClass_of_methodNamed B.named, atoms_spec (ws := wsX8_swap) B.pre⟩
  have w := tw_w0 hP hD0
  have hl := lv_entry ([.ref a0]) (n := 2) (Nat.le_of_ble_eq_true rfl)
  rw [lg_entry_eq]
  generalize (lg_sl ([.ref a0]) ++ List.replicate (2 - (lg_sl ([.ref a0])).length) Slot.unset).toArray = ls at hl ⊢
  have hl : lv_has ls 2 [(0, .ref a0)] := hl
  unfold wp_X8_swap at h
  refine lv_aload_n X.1 X.2.1 dX8_swap_0 rfl (lv_at hl 0 rfl) ?_
  refine tw_get X hK w 8 iw_X8_swap_8 h0 (by decide) rfl 1 (by decide) (List.mem_of_getElem? (i := 1) rfl) rfl dX8_swap_1 ?_
  refine lv_aload_n X.1 X.2.1 dX8_swap_4 rfl (lv_at hl 0 rfl) ?_
  refine tw_get X hK w 8 iw_X8_swap_8 h0 (by decide) rfl 0 (by decide) (List.mem_of_getElem? (i := 2) rfl) rfl dX8_swap_5 ?_
  refine tw_cv w (va_runV (As := [.ref (tw_R g a0 0)]) (rest := []) X (ct_X2_remember l D g hT _ σ (tw_R g a0 1) (tw_t_8_1 hT h0) (tw_R g a0 0) (tw_t_8_0 hT h0) _ h) (cwV 1 X.2.2.2.2 gX8_swap_X2_remember rfl rfl rfl (by decide +kernel) ⟨Nat.le_of_ble_eq_true rfl, Nat.le_of_ble_eq_true rfl⟩) (tw_preV hK w (tw_t_8_1 hT h0) (by decide) rfl [.ref (tw_R g a0 0)]) rfl rfl hl.1 rfl (lv_room (Nat.le_of_ble_eq_true rfl)) dX8_swap_8 ⟨Nat.zero_le _, Nat.zero_le _⟩) (fun σ1 H locs h w => ?_)
  refine lv_aload_n X.1 X.2.1 dX8_swap_11 rfl (lv_at hl 0 rfl) ?_
  refine tw_get X hK w 8 iw_X8_swap_8 h0 (by decide) rfl 0 (by decide) (List.mem_of_getElem? (i := 2) rfl) rfl dX8_swap_12 ?_
  refine lv_iconst (v := 0) X.1 X.2.1 dX8_swap_15 (by decide) ?_
  refine tw_cr w (va_runV (As := [.int (0 : Int32)]) (rest := []) X (ct_X0_at l D g hT _ σ1 (tw_R g a0 0) (tw_t_8_0 hT h0) (0 : Int32) _ h) (cwV 1 X.2.2.2.2 gX8_swap_X0_at rfl rfl rfl (by decide +kernel) ⟨Nat.le_of_ble_eq_true rfl, Nat.le_of_ble_eq_true rfl⟩) (tw_preV hK w (tw_t_8_0 hT h0) (by decide) rfl [.int (0 : Int32)]) rfl rfl hl.1 rfl (lv_room (Nat.le_of_ble_eq_true rfl)) dX8_swap_16 ⟨Nat.zero_le _, Nat.zero_le _⟩) (fun y3 σ2 H locs hy3 h w => ?_)
  refine lv_aload_n X.1 X.2.1 dX8_swap_19 rfl (lv_at hl 0 rfl) ?_
  refine tw_get X hK w 8 iw_X8_swap_8 h0 (by decide) rfl 0 (by decide) (List.mem_of_getElem? (i := 2) rfl) rfl dX8_swap_20 ?_
  refine lv_iconst (v := 1) X.1 X.2.1 dX8_swap_23 (by decide) ?_
  refine tw_cr w (va_runV (As := [.int (1 : Int32)]) (rest := [.ref y3]) X (ct_X0_at l D g hT _ σ2 (tw_R g a0 0) (tw_t_8_0 hT h0) (1 : Int32) _ h) (cwV 1 X.2.2.2.2 gX8_swap_X0_at rfl rfl rfl (by decide +kernel) ⟨Nat.le_of_ble_eq_true rfl, Nat.le_of_ble_eq_true rfl⟩) (tw_preV hK w (tw_t_8_0 hT h0) (by decide) rfl [.int (1 : Int32)]) rfl rfl hl.1 rfl (lv_room (Nat.le_of_ble_eq_true rfl)) dX8_swap_24 ⟨Nat.zero_le _, Nat.zero_le _⟩) (fun y5 σ4 H locs hy5 h w => ?_)
  refine tw_ci w (va_runV (As := [.ref y5]) (rest := []) X (ct_X3_isLike l D g hT _ σ4 y3 hy3 y5 hy5 _ h) (cwV 1 X.2.2.2.2 gX8_swap_X3_isLike rfl rfl rfl (by decide +kernel) ⟨Nat.le_of_ble_eq_true rfl, Nat.le_of_ble_eq_true rfl⟩) (tw_preV hK w hy3 (by decide) rfl [.ref y5]) rfl rfl hl.1 rfl (lv_room (Nat.le_of_ble_eq_true rfl)) dX8_swap_27 ⟨Nat.zero_le _, Nat.zero_le _⟩) (fun r7 σ6 H locs h w => ?_)
  refine lv_istore_n (lv' := [(1, .int r7), (0, .ref a0)]) X.1 X.2.1 dX8_swap_30 rfl hl (by decide) rfl (fun ls hl => ?_)
  refine lv_aload_n X.1 X.2.1 dX8_swap_31 rfl (lv_at hl 1 rfl) ?_
  refine tw_get X hK w 8 iw_X8_swap_8 h0 (by decide) rfl 0 (by decide) (List.mem_of_getElem? (i := 2) rfl) rfl dX8_swap_32 ?_
  refine lv_aload_n X.1 X.2.1 dX8_swap_35 rfl (lv_at hl 1 rfl) ?_
  refine tw_get X hK w 8 iw_X8_swap_8 h0 (by decide) rfl 5 (by decide) (List.mem_of_getElem? (i := 3) rfl) rfl dX8_swap_36 ?_
  refine tw_cv w (va_runV (As := [.ref (tw_R g a0 5)]) (rest := []) X (ct_X0_changePlaces l D g hT _ σ6 (tw_R g a0 0) (tw_t_8_0 hT h0) (tw_R g a0 5) (tw_t_8_5 hT h0) _ h) (cwV 1 X.2.2.2.2 gX8_swap_X0_changePlaces rfl rfl rfl (by decide +kernel) ⟨Nat.le_of_ble_eq_true rfl, Nat.le_of_ble_eq_true rfl⟩) (tw_preV hK w (tw_t_8_0 hT h0) (by decide) rfl [.ref (tw_R g a0 5)]) rfl rfl hl.1 rfl (lv_room (Nat.le_of_ble_eq_true rfl)) dX8_swap_39 ⟨Nat.zero_le _, Nat.zero_le _⟩) (fun σ8 H locs h w => ?_)
  refine lv_iload_n X.1 X.2.1 dX8_swap_42 rfl (lv_at hl 0 rfl) ?_
  refine lv_if_eq (tgt := 50) X.1 X.2.1 dX8_swap_43 (by decide) (fun c9 => ?_) (fun c9 => ?_)
  · have h := h.1 c9
    refine lv_iconst (v := 1) X.1 X.2.1 dX8_swap_50 (by decide) ?_
    exact tw_iret X hr hlk w h dX8_swap_51
  · have h := h.2 c9
    refine lv_iconst (v := 0) X.1 X.2.1 dX8_swap_46 (by decide) ?_
    refine lv_goto (tgt := 51) X.1 X.2.1 dX8_swap_47 (by decide) ?_
    exact tw_iret X hr hlk w h dX8_swap_51

abbrev RM_X8_undo : Room := { frames := 4, cells := 0, slots := 0, locals := 90 }
theorem iw_X8_undo_8 : ∀ w ∈ wsX80, w ∈ wsX8_undo := fun w h => List.mem_cons_of_mem _ (List.mem_append_left _ (List.mem_append_left _ (List.mem_append_left _ (List.mem_append_right _ (h)))))
def wp_X8_undo (g : tw_G) (σ : tw_S) (a0 : Nat) (Q : Int32 → tw_S → Prop) : Prop := wp_X2_stepBack g σ (tw_R g a0 1) (tw_R g a0 0) (fun r2 σ1 => ((r2 = 0) → Q (-1000000003 : Int32) σ1) ∧ (¬ (r2 = 0) → wp_X2_size g σ1 (tw_R g a0 1) (fun r5 σ4 => Q r5 σ4)))
set_option maxHeartbeats 4000000 in
set_option maxRecDepth 100000 in
theorem ct_X8_undo (l : Launch) (D : va_G) (g : tw_G) (hT : tw_T g) (sz : Nat) (σ : tw_S) (a0 : Nat) (h0 : tw_is g 8 a0) (Q : Int32 → tw_S → Prop) (h : wp_X8_undo g σ a0 Q) : tw_Mi l yX8_undo wsX8_undo RM_X8_undo D g sz σ [.ref a0] Q := by
  refine Met.ofW (cc := cX8_undo) (maxL := 1) (ret := (some .int)) (by decide) rfl ?_
  intro p e s m args below meth c s₁ B hml hv
  obtain ⟨rfl, hsz, hP, hK, hD0⟩ := hv
  subst hsz
  have hr := B.returns
  have hlk := B.notSynchronized
  have X : CallFix p m c cX8_undo 1 s _ wsX8_undo RX8 := ⟨B.exec, B.bytes, hml, findClass_of_methodNamed B.named, atoms_spec (ws := wsX8_undo) B.pre⟩
  have w := tw_w0 hP hD0
  have hl := lv_entry ([.ref a0]) (n := 1) (Nat.le_of_ble_eq_true rfl)
  rw [lg_entry_eq]
  generalize (lg_sl ([.ref a0]) ++ List.replicate (1 - (lg_sl ([.ref a0])).length) Slot.unset).toArray = ls at hl ⊢
  have hl : lv_has ls 1 [(0, .ref a0)] := hl
  unfold wp_X8_undo at h
  refine lv_aload_n X.1 X.2.1 dX8_undo_0 rfl (lv_at hl 0 rfl) ?_
  refine tw_get X hK w 8 iw_X8_undo_8 h0 (by decide) rfl 1 (by decide) (List.mem_of_getElem? (i := 1) rfl) rfl dX8_undo_1 ?_
  refine lv_aload_n X.1 X.2.1 dX8_undo_4 rfl (lv_at hl 0 rfl) ?_
  refine tw_get X hK w 8 iw_X8_undo_8 h0 (by decide) rfl 0 (by decide) (List.mem_of_getElem? (i := 2) rfl) rfl dX8_undo_5 ?_
  refine tw_ci w (va_runV (As := [.ref (tw_R g a0 0)]) (rest := []) X (ct_X2_stepBack l D g hT _ σ (tw_R g a0 1) (tw_t_8_1 hT h0) (tw_R g a0 0) (tw_t_8_0 hT h0) _ h) (cwV 1 X.2.2.2.2 gX8_undo_X2_stepBack rfl rfl rfl (by decide +kernel) ⟨Nat.le_of_ble_eq_true rfl, Nat.le_of_ble_eq_true rfl⟩) (tw_preV hK w (tw_t_8_1 hT h0) (by decide) rfl [.ref (tw_R g a0 0)]) rfl rfl hl.1 rfl (lv_room (Nat.le_of_ble_eq_true rfl)) dX8_undo_8 ⟨Nat.zero_le _, Nat.zero_le _⟩) (fun r2 σ1 H locs h w => ?_)
  refine lv_if_eq (tgt := 24) X.1 X.2.1 dX8_undo_11 (by decide) (fun c3 => ?_) (fun c3 => ?_)
  · have h := h.1 c3
    refine lv_ldc (own := RX8) (v := -1000000003) X.1 X.2.1 X.2.2.2.1 (X.2.2.2.2 _ (List.mem_of_getElem? (i := 3) rfl)) dX8_undo_24 ?_
    exact tw_iret X hr hlk w h dX8_undo_26
  · have h := h.2 c3
    refine lv_aload_n X.1 X.2.1 dX8_undo_14 rfl (lv_at hl 0 rfl) ?_
    refine tw_get X hK w 8 iw_X8_undo_8 h0 (by decide) rfl 1 (by decide) (List.mem_of_getElem? (i := 1) rfl) rfl dX8_undo_15 ?_
    refine tw_ci w (va_runV (As := []) (rest := []) X (ct_X2_size l D g hT _ σ1 (tw_R g a0 1) (tw_t_8_1 hT h0) _ h) (cwV 0 X.2.2.2.2 gX8_undo_X2_size rfl rfl rfl (by decide +kernel) ⟨Nat.le_of_ble_eq_true rfl, Nat.le_of_ble_eq_true rfl⟩) (tw_preV hK w (tw_t_8_1 hT h0) (by decide) rfl []) rfl rfl hl.1 rfl (lv_room (Nat.le_of_ble_eq_true rfl)) dX8_undo_18 ⟨Nat.zero_le _, Nat.zero_le _⟩) (fun r5 σ4 H locs h w => ?_)
    refine lv_goto (tgt := 26) X.1 X.2.1 dX8_undo_21 (by decide) ?_
    exact tw_iret X hr hlk w h dX8_undo_26

abbrev RM_X8_moveOf : Room := { frames := 2, cells := 0, slots := 0, locals := 44 }
theorem iw_X8_moveOf_8 : ∀ w ∈ wsX80, w ∈ wsX8_moveOf := fun w h => List.mem_cons_of_mem _ (List.mem_append_left _ (List.mem_append_left _ (List.mem_append_right _ (h))))
def wp_X8_moveOf (g : tw_G) (σ : tw_S) (a0 : Nat) (x1 : Int32) (x2 : Int32) (x3 : Int32) (Q : Int32 → tw_S → Prop) : Prop := wp_X8_hasMoveOf g σ a0 x1 x2 x3 (fun r2 σ1 => ((r2 = 0) → Q (-1000000001 : Int32) σ1) ∧ (¬ (r2 = 0) → wp_X0_at g σ1 (tw_R g a0 0) x1 (fun y5 σ4 => wp_X3_at g σ4 y5 x2 x3 (fun r7 σ6 => Q r7 σ6))))
set_option maxHeartbeats 4000000 in
set_option maxRecDepth 100000 in
theorem ct_X8_moveOf (l : Launch) (D : va_G) (g : tw_G) (hT : tw_T g) (sz : Nat) (σ : tw_S) (a0 : Nat) (h0 : tw_is g 8 a0) (x1 : Int32) (x2 : Int32) (x3 : Int32) (Q : Int32 → tw_S → Prop) (h : wp_X8_moveOf g σ a0 x1 x2 x3 Q) : tw_Mi l yX8_moveOf wsX8_moveOf RM_X8_moveOf D g sz σ [.ref a0, .int x1, .int x2, .int x3] Q := by
  refine Met.ofW (cc := cX8_moveOf) (maxL := 4) (ret := (some .int)) (by decide) rfl ?_
  intro p e s m args below meth c s₁ B hml hv
  obtain ⟨rfl, hsz, hP, hK, hD0⟩ := hv
  subst hsz
  have hr := B.returns
  have hlk := B.notSynchronized
  have X : CallFix p m c cX8_moveOf 4 s _ wsX8_moveOf RX8 := ⟨B.exec, B.bytes, hml, findClass_of_methodNamed B.named, atoms_spec (ws := wsX8_moveOf) B.pre⟩
  have w := tw_w0 hP hD0
  have hl := lv_entry ([.ref a0, .int x1, .int x2, .int x3]) (n := 4) (Nat.le_of_ble_eq_true rfl)
  rw [lg_entry_eq]
  generalize (lg_sl ([.ref a0, .int x1, .int x2, .int x3]) ++ List.replicate (4 - (lg_sl ([.ref a0, .int x1, .int x2, .int x3])).length) Slot.unset).toArray = ls at hl ⊢
  have hl : lv_has ls 4 [(0, .ref a0), (1, .int x1), (2, .int x2), (3, .int x3)] := hl
  unfold wp_X8_moveOf at h
  refine lv_aload_n X.1 X.2.1 dX8_moveOf_0 rfl (lv_at hl 0 rfl) ?_
  refine lv_iload_n X.1 X.2.1 dX8_moveOf_1 rfl (lv_at hl 1 rfl) ?_
  refine lv_iload_n X.1 X.2.1 dX8_moveOf_2 rfl (lv_at hl 2 rfl) ?_
  refine lv_iload_n X.1 X.2.1 dX8_moveOf_3 rfl (lv_at hl 3 rfl) ?_
  refine tw_ci w (va_runV (As := [.int x1, .int x2, .int x3]) (rest := []) X (ct_X8_hasMoveOf l D g hT _ σ a0 h0 x1 x2 x3 _ h) (cwV 3 X.2.2.2.2 gX8_moveOf_X8_hasMoveOf rfl rfl rfl (by decide +kernel) ⟨Nat.le_of_ble_eq_true rfl, Nat.le_of_ble_eq_true rfl⟩) (tw_preV hK w h0 (by decide) rfl [.int x1, .int x2, .int x3]) rfl rfl hl.1 rfl (lv_room (Nat.le_of_ble_eq_true rfl)) dX8_moveOf_4 ⟨Nat.zero_le _, Nat.zero_le _⟩) (fun r2 σ1 H locs h w => ?_)
  refine lv_if_eq (tgt := 26) X.1 X.2.1 dX8_moveOf_7 (by decide) (fun c3 => ?_) (fun c3 => ?_)
  · have h := h.1 c3
    refine lv_ldc (own := RX8) (v := -1000000001) X.1 X.2.1 X.2.2.2.1 (X.2.2.2.2 _ (List.mem_of_getElem? (i := 2) rfl)) dX8_moveOf_26 ?_
    exact tw_iret X hr hlk w h dX8_moveOf_28
  · have h := h.2 c3
    refine lv_aload_n X.1 X.2.1 dX8_moveOf_10 rfl (lv_at hl 0 rfl) ?_
    refine tw_get X hK w 8 iw_X8_moveOf_8 h0 (by decide) rfl 0 (by decide) (List.mem_of_getElem? (i := 1) rfl) rfl dX8_moveOf_11 ?_
    refine lv_iload_n X.1 X.2.1 dX8_moveOf_14 rfl (lv_at hl 1 rfl) ?_
    refine tw_cr w (va_runV (As := [.int x1]) (rest := []) X (ct_X0_at l D g hT _ σ1 (tw_R g a0 0) (tw_t_8_0 hT h0) x1 _ h) (cwV 1 X.2.2.2.2 gX8_moveOf_X0_at rfl rfl rfl (by decide +kernel) ⟨Nat.le_of_ble_eq_true rfl, Nat.le_of_ble_eq_true rfl⟩) (tw_preV hK w (tw_t_8_0 hT h0) (by decide) rfl [.int x1]) rfl rfl hl.1 rfl (lv_room (Nat.le_of_ble_eq_true rfl)) dX8_moveOf_15 ⟨Nat.zero_le _, Nat.zero_le _⟩) (fun y5 σ4 H locs hy5 h w => ?_)
    refine lv_iload_n X.1 X.2.1 dX8_moveOf_18 rfl (lv_at hl 2 rfl) ?_
    refine lv_iload_n X.1 X.2.1 dX8_moveOf_19 rfl (lv_at hl 3 rfl) ?_
    refine tw_ci w (va_runV (As := [.int x2, .int x3]) (rest := []) X (ct_X3_at l D g hT _ σ4 y5 hy5 x2 x3 _ h) (cwV 2 X.2.2.2.2 gX8_moveOf_X3_at rfl rfl rfl (by decide +kernel) ⟨Nat.le_of_ble_eq_true rfl, Nat.le_of_ble_eq_true rfl⟩) (tw_preV hK w hy5 (by decide) rfl [.int x2, .int x3]) rfl rfl hl.1 rfl (lv_room (Nat.le_of_ble_eq_true rfl)) dX8_moveOf_20 ⟨Nat.zero_le _, Nat.zero_le _⟩) (fun r7 σ6 H locs h w => ?_)
    refine lv_goto (tgt := 28) X.1 X.2.1 dX8_moveOf_23 (by decide) ?_
    exact tw_iret X hr hlk w h dX8_moveOf_28

abbrev RM_X8_letter : Room := { frames := 1, cells := 0, slots := 0, locals := 21 }
theorem iw_X8_letter_8 : ∀ w ∈ wsX80, w ∈ wsX8_letter := fun w h => List.mem_cons_of_mem _ (List.mem_append_left _ (List.mem_append_right _ (h)))
def wp_X8_letter (g : tw_G) (σ : tw_S) (a0 : Nat) (x1 : Int32) (Q : Int32 → tw_S → Prop) : Prop := ((x1 = (97 : Int32)) → wp_X7_add g σ (tw_R g a0 6) (x1 - (97 : Int32)) (fun r3 σ2 => ((r3 = 0) → Q (-1000000004 : Int32) σ2) ∧ (¬ (r3 = 0) → wp_X7_length g σ2 (tw_R g a0 6) (fun r6 σ5 => Q r6 σ5)))) ∧ (¬ (x1 = (97 : Int32)) → ((x1 = (98 : Int32)) → wp_X7_add g σ (tw_R g a0 6) (x1 - (97 : Int32)) (fun r9 σ8 => ((r9 = 0) → Q (-1000000004 : Int32) σ8) ∧ (¬ (r9 = 0) → wp_X7_length g σ8 (tw_R g a0 6) (fun r12 σ11 => Q r12 σ11)))) ∧ (¬ (x1 = (98 : Int32)) → Q (-1000000002 : Int32) σ))
set_option maxHeartbeats 4000000 in
set_option maxRecDepth 100000 in
theorem ct_X8_letter (l : Launch) (D : va_G) (g : tw_G) (hT : tw_T g) (sz : Nat) (σ : tw_S) (a0 : Nat) (h0 : tw_is g 8 a0) (x1 : Int32) (Q : Int32 → tw_S → Prop) (h : wp_X8_letter g σ a0 x1 Q) : tw_Mi l yX8_letter wsX8_letter RM_X8_letter D g sz σ [.ref a0, .int x1] Q := by
  refine Met.ofW (cc := cX8_letter) (maxL := 2) (ret := (some .int)) (by decide) rfl ?_
  intro p e s m args below meth c s₁ B hml hv
  obtain ⟨rfl, hsz, hP, hK, hD0⟩ := hv
  subst hsz
  have hr := B.returns
  have hlk := B.notSynchronized
  have X : CallFix p m c cX8_letter 2 s _ wsX8_letter RX8 := ⟨B.exec, B.bytes, hml, findClass_of_methodNamed B.named, atoms_spec (ws := wsX8_letter) B.pre⟩
  have w := tw_w0 hP hD0
  have hl := lv_entry ([.ref a0, .int x1]) (n := 2) (Nat.le_of_ble_eq_true rfl)
  rw [lg_entry_eq]
  generalize (lg_sl ([.ref a0, .int x1]) ++ List.replicate (2 - (lg_sl ([.ref a0, .int x1])).length) Slot.unset).toArray = ls at hl ⊢
  have hl : lv_has ls 2 [(0, .ref a0), (1, .int x1)] := hl
  unfold wp_X8_letter at h
  refine lv_iload_n X.1 X.2.1 dX8_letter_0 rfl (lv_at hl 1 rfl) ?_
  refine lv_bipush (v := 97) X.1 X.2.1 dX8_letter_1 (by decide) ?_
  refine lv_icmp_eq (tgt := 15) X.1 X.2.1 dX8_letter_3 (by decide) (fun c1 => ?_) (fun c1 => ?_)
  · have h := h.1 c1
    refine lv_aload_n X.1 X.2.1 dX8_letter_15 rfl (lv_at hl 0 rfl) ?_
    refine tw_get X hK w 8 iw_X8_letter_8 h0 (by decide) rfl 6 (by decide) (List.mem_of_getElem? (i := 2) rfl) rfl dX8_letter_16 ?_
    refine lv_iload_n X.1 X.2.1 dX8_letter_19 rfl (lv_at hl 1 rfl) ?_
    refine lv_bipush (v := 97) X.1 X.2.1 dX8_letter_20 (by decide) ?_
    refine lv_isub X.1 X.2.1 dX8_letter_22 ?_
    refine tw_ci w (va_runV (As := [.int (x1 - (97 : Int32))]) (rest := []) X (ct_X7_add l D g hT _ σ (tw_R g a0 6) (tw_t_8_6 hT h0) (x1 - (97 : Int32)) _ h) (cwV 1 X.2.2.2.2 gX8_letter_X7_add rfl rfl rfl (by decide +kernel) ⟨Nat.le_of_ble_eq_true rfl, Nat.le_of_ble_eq_true rfl⟩) (tw_preV hK w (tw_t_8_6 hT h0) (by decide) rfl [.int (x1 - (97 : Int32))]) rfl rfl hl.1 rfl (lv_room (Nat.le_of_ble_eq_true rfl)) dX8_letter_23 ⟨Nat.zero_le _, Nat.zero_le _⟩) (fun r3 σ2 H locs h w => ?_)
    refine lv_if_eq (tgt := 39) X.1 X.2.1 dX8_letter_26 (by decide) (fun c4 => ?_) (fun c4 => ?_)
    · have h := h.1 c4
      refine lv_ldc (own := RX8) (v := -1000000004) X.1 X.2.1 X.2.2.2.1 (X.2.2.2.2 _ (List.mem_of_getElem? (i := 3) rfl)) dX8_letter_39 ?_
      exact tw_iret X hr hlk w h dX8_letter_41
    · have h := h.2 c4
      refine lv_aload_n X.1 X.2.1 dX8_letter_29 rfl (lv_at hl 0 rfl) ?_
      refine tw_get X hK w 8 iw_X8_letter_8 h0 (by decide) rfl 6 (by decide) (List.mem_of_getElem? (i := 2) rfl) rfl dX8_letter_30 ?_
      refine tw_ci w (va_runV (As := []) (rest := []) X (ct_X7_length l D g hT _ σ2 (tw_R g a0 6) (tw_t_8_6 hT h0) _ h) (cwV 0 X.2.2.2.2 gX8_letter_X7_length rfl rfl rfl (by decide +kernel) ⟨Nat.le_of_ble_eq_true rfl, Nat.le_of_ble_eq_true rfl⟩) (tw_preV hK w (tw_t_8_6 hT h0) (by decide) rfl []) rfl rfl hl.1 rfl (lv_room (Nat.le_of_ble_eq_true rfl)) dX8_letter_33 ⟨Nat.zero_le _, Nat.zero_le _⟩) (fun r6 σ5 H locs h w => ?_)
      refine lv_goto (tgt := 41) X.1 X.2.1 dX8_letter_36 (by decide) ?_
      exact tw_iret X hr hlk w h dX8_letter_41
  · have h := h.2 c1
    refine lv_iload_n X.1 X.2.1 dX8_letter_6 rfl (lv_at hl 1 rfl) ?_
    refine lv_bipush (v := 98) X.1 X.2.1 dX8_letter_7 (by decide) ?_
    refine lv_icmp_eq (tgt := 15) X.1 X.2.1 dX8_letter_9 (by decide) (fun c7 => ?_) (fun c7 => ?_)
    · have h := h.1 c7
      refine lv_aload_n X.1 X.2.1 dX8_letter_15 rfl (lv_at hl 0 rfl) ?_
      refine tw_get X hK w 8 iw_X8_letter_8 h0 (by decide) rfl 6 (by decide) (List.mem_of_getElem? (i := 2) rfl) rfl dX8_letter_16 ?_
      refine lv_iload_n X.1 X.2.1 dX8_letter_19 rfl (lv_at hl 1 rfl) ?_
      refine lv_bipush (v := 97) X.1 X.2.1 dX8_letter_20 (by decide) ?_
      refine lv_isub X.1 X.2.1 dX8_letter_22 ?_
      refine tw_ci w (va_runV (As := [.int (x1 - (97 : Int32))]) (rest := []) X (ct_X7_add l D g hT _ σ (tw_R g a0 6) (tw_t_8_6 hT h0) (x1 - (97 : Int32)) _ h) (cwV 1 X.2.2.2.2 gX8_letter_X7_add rfl rfl rfl (by decide +kernel) ⟨Nat.le_of_ble_eq_true rfl, Nat.le_of_ble_eq_true rfl⟩) (tw_preV hK w (tw_t_8_6 hT h0) (by decide) rfl [.int (x1 - (97 : Int32))]) rfl rfl hl.1 rfl (lv_room (Nat.le_of_ble_eq_true rfl)) dX8_letter_23 ⟨Nat.zero_le _, Nat.zero_le _⟩) (fun r9 σ8 H locs h w => ?_)
      refine lv_if_eq (tgt := 39) X.1 X.2.1 dX8_letter_26 (by decide) (fun c10 => ?_) (fun c10 => ?_)
      · have h := h.1 c10
        refine lv_ldc (own := RX8) (v := -1000000004) X.1 X.2.1 X.2.2.2.1 (X.2.2.2.2 _ (List.mem_of_getElem? (i := 3) rfl)) dX8_letter_39 ?_
        exact tw_iret X hr hlk w h dX8_letter_41
      · have h := h.2 c10
        refine lv_aload_n X.1 X.2.1 dX8_letter_29 rfl (lv_at hl 0 rfl) ?_
        refine tw_get X hK w 8 iw_X8_letter_8 h0 (by decide) rfl 6 (by decide) (List.mem_of_getElem? (i := 2) rfl) rfl dX8_letter_30 ?_
        refine tw_ci w (va_runV (As := []) (rest := []) X (ct_X7_length l D g hT _ σ8 (tw_R g a0 6) (tw_t_8_6 hT h0) _ h) (cwV 0 X.2.2.2.2 gX8_letter_X7_length rfl rfl rfl (by decide +kernel) ⟨Nat.le_of_ble_eq_true rfl, Nat.le_of_ble_eq_true rfl⟩) (tw_preV hK w (tw_t_8_6 hT h0) (by decide) rfl []) rfl rfl hl.1 rfl (lv_room (Nat.le_of_ble_eq_true rfl)) dX8_letter_33 ⟨Nat.zero_le _, Nat.zero_le _⟩) (fun r12 σ11 H locs h w => ?_)
        refine lv_goto (tgt := 41) X.1 X.2.1 dX8_letter_36 (by decide) ?_
        exact tw_iret X hr hlk w h dX8_letter_41
    · have h := h.2 c7
      refine lv_ldc (own := RX8) (v := -1000000002) X.1 X.2.1 X.2.2.2.1 (X.2.2.2.2 _ (List.mem_of_getElem? (i := 1) rfl)) dX8_letter_12 ?_
      exact tw_iret X hr hlk w h dX8_letter_14

abbrev RM_X8_word : Room := { frames := 2, cells := 0, slots := 0, locals := 45 }
theorem iw_X8_word_8 : ∀ w ∈ wsX80, w ∈ wsX8_word := fun w h => List.mem_cons_of_mem _ (List.mem_append_left _ (List.mem_append_right _ (h)))
def wp_X8_word (g : tw_G) (σ : tw_S) (a0 : Nat) (x1 : Int32) (Q : Int32 → tw_S → Prop) : Prop := ((x1 < (1 : Int32)) → Q (-1000000002 : Int32) σ) ∧ (¬ (x1 < (1 : Int32)) → ((x1 < (33554432 : Int32)) → wp_X7_become g σ (tw_R g a0 6) x1 (fun σ3 => wp_X7_length g σ3 (tw_R g a0 6) (fun r5 σ4 => Q r5 σ4))) ∧ (¬ (x1 < (33554432 : Int32)) → Q (-1000000002 : Int32) σ))
set_option maxHeartbeats 4000000 in
set_option maxRecDepth 100000 in
theorem ct_X8_word (l : Launch) (D : va_G) (g : tw_G) (hT : tw_T g) (sz : Nat) (σ : tw_S) (a0 : Nat) (h0 : tw_is g 8 a0) (x1 : Int32) (Q : Int32 → tw_S → Prop) (h : wp_X8_word g σ a0 x1 Q) : tw_Mi l yX8_word wsX8_word RM_X8_word D g sz σ [.ref a0, .int x1] Q := by
  refine Met.ofW (cc := cX8_word) (maxL := 2) (ret := (some .int)) (by decide) rfl ?_
  intro p e s m args below meth c s₁ B hml hv
  obtain ⟨rfl, hsz, hP, hK, hD0⟩ := hv
  subst hsz
  have hr := B.returns
  have hlk := B.notSynchronized
  have X : CallFix p m c cX8_word 2 s _ wsX8_word RX8 := ⟨B.exec, B.bytes, hml, findClass_of_methodNamed B.named, atoms_spec (ws := wsX8_word) B.pre⟩
  have w := tw_w0 hP hD0
  have hl := lv_entry ([.ref a0, .int x1]) (n := 2) (Nat.le_of_ble_eq_true rfl)
  rw [lg_entry_eq]
  generalize (lg_sl ([.ref a0, .int x1]) ++ List.replicate (2 - (lg_sl ([.ref a0, .int x1])).length) Slot.unset).toArray = ls at hl ⊢
  have hl : lv_has ls 2 [(0, .ref a0), (1, .int x1)] := hl
  unfold wp_X8_word at h
  refine lv_iload_n X.1 X.2.1 dX8_word_0 rfl (lv_at hl 1 rfl) ?_
  refine lv_iconst (v := 1) X.1 X.2.1 dX8_word_1 (by decide) ?_
  refine lv_icmp_lt (tgt := 11) X.1 X.2.1 dX8_word_2 (by decide) (fun c1 => ?_) (fun c1 => ?_)
  · have h := h.1 c1
    refine lv_ldc (own := RX8) (v := -1000000002) X.1 X.2.1 X.2.2.2.1 (X.2.2.2.2 _ (List.mem_of_getElem? (i := 2) rfl)) dX8_word_11 ?_
    exact tw_iret X hr hlk w h dX8_word_13
  · have h := h.2 c1
    refine lv_iload_n X.1 X.2.1 dX8_word_5 rfl (lv_at hl 1 rfl) ?_
    refine lv_ldc (own := RX8) (v := 33554432) X.1 X.2.1 X.2.2.2.1 (X.2.2.2.2 _ (List.mem_of_getElem? (i := 1) rfl)) dX8_word_6 ?_
    refine lv_icmp_lt (tgt := 14) X.1 X.2.1 dX8_word_8 (by decide) (fun c2 => ?_) (fun c2 => ?_)
    · have h := h.1 c2
      refine lv_aload_n X.1 X.2.1 dX8_word_14 rfl (lv_at hl 0 rfl) ?_
      refine tw_get X hK w 8 iw_X8_word_8 h0 (by decide) rfl 6 (by decide) (List.mem_of_getElem? (i := 3) rfl) rfl dX8_word_15 ?_
      refine lv_iload_n X.1 X.2.1 dX8_word_18 rfl (lv_at hl 1 rfl) ?_
      refine tw_cv w (va_runV (As := [.int x1]) (rest := []) X (ct_X7_become l D g hT _ σ (tw_R g a0 6) (tw_t_8_6 hT h0) x1 _ h) (cwV 1 X.2.2.2.2 gX8_word_X7_become rfl rfl rfl (by decide +kernel) ⟨Nat.le_of_ble_eq_true rfl, Nat.le_of_ble_eq_true rfl⟩) (tw_preV hK w (tw_t_8_6 hT h0) (by decide) rfl [.int x1]) rfl rfl hl.1 rfl (lv_room (Nat.le_of_ble_eq_true rfl)) dX8_word_19 ⟨Nat.zero_le _, Nat.zero_le _⟩) (fun σ3 H locs h w => ?_)
      refine lv_aload_n X.1 X.2.1 dX8_word_22 rfl (lv_at hl 0 rfl) ?_
      refine tw_get X hK w 8 iw_X8_word_8 h0 (by decide) rfl 6 (by decide) (List.mem_of_getElem? (i := 3) rfl) rfl dX8_word_23 ?_
      refine tw_ci w (va_runV (As := []) (rest := []) X (ct_X7_length l D g hT _ σ3 (tw_R g a0 6) (tw_t_8_6 hT h0) _ h) (cwV 0 X.2.2.2.2 gX8_word_X7_length rfl rfl rfl (by decide +kernel) ⟨Nat.le_of_ble_eq_true rfl, Nat.le_of_ble_eq_true rfl⟩) (tw_preV hK w (tw_t_8_6 hT h0) (by decide) rfl []) rfl rfl hl.1 rfl (lv_room (Nat.le_of_ble_eq_true rfl)) dX8_word_26 ⟨Nat.zero_le _, Nat.zero_le _⟩) (fun r5 σ4 H locs h w => ?_)
      exact tw_iret X hr hlk w h dX8_word_29
    · have h := h.2 c2
      refine lv_ldc (own := RX8) (v := -1000000002) X.1 X.2.1 X.2.2.2.1 (X.2.2.2.2 _ (List.mem_of_getElem? (i := 2) rfl)) dX8_word_11 ?_
      exact tw_iret X hr hlk w h dX8_word_13

abbrev RM_X8_wipe : Room := { frames := 2, cells := 0, slots := 0, locals := 45 }
theorem iw_X8_wipe_8 : ∀ w ∈ wsX80, w ∈ wsX8_wipe := fun w h => List.mem_cons_of_mem _ (List.mem_append_left _ (List.mem_append_right _ (h)))
def wp_X8_wipe (g : tw_G) (σ : tw_S) (a0 : Nat) (Q : Int32 → tw_S → Prop) : Prop := wp_X7_length g σ (tw_R g a0 6) (fun r2 σ1 => wp_X7_become g σ1 (tw_R g a0 6) (1 : Int32) (fun σ3 => Q r2 σ3))
set_option maxHeartbeats 4000000 in
set_option maxRecDepth 100000 in
theorem ct_X8_wipe (l : Launch) (D : va_G) (g : tw_G) (hT : tw_T g) (sz : Nat) (σ : tw_S) (a0 : Nat) (h0 : tw_is g 8 a0) (Q : Int32 → tw_S → Prop) (h : wp_X8_wipe g σ a0 Q) : tw_Mi l yX8_wipe wsX8_wipe RM_X8_wipe D g sz σ [.ref a0] Q := by
  refine Met.ofW (cc := cX8_wipe) (maxL := 2) (ret := (some .int)) (by decide) rfl ?_
  intro p e s m args below meth c s₁ B hml hv
  obtain ⟨rfl, hsz, hP, hK, hD0⟩ := hv
  subst hsz
  have hr := B.returns
  have hlk := B.notSynchronized
  have X : CallFix p m c cX8_wipe 2 s _ wsX8_wipe RX8 := ⟨B.exec, B.bytes, hml, findClass_of_methodNamed B.named, atoms_spec (ws := wsX8_wipe) B.pre⟩
  have w := tw_w0 hP hD0
  have hl := lv_entry ([.ref a0]) (n := 2) (Nat.le_of_ble_eq_true rfl)
  rw [lg_entry_eq]
  generalize (lg_sl ([.ref a0]) ++ List.replicate (2 - (lg_sl ([.ref a0])).length) Slot.unset).toArray = ls at hl ⊢
  have hl : lv_has ls 2 [(0, .ref a0)] := hl
  unfold wp_X8_wipe at h
  refine lv_aload_n X.1 X.2.1 dX8_wipe_0 rfl (lv_at hl 0 rfl) ?_
  refine tw_get X hK w 8 iw_X8_wipe_8 h0 (by decide) rfl 6 (by decide) (List.mem_of_getElem? (i := 1) rfl) rfl dX8_wipe_1 ?_
  refine tw_ci w (va_runV (As := []) (rest := []) X (ct_X7_length l D g hT _ σ (tw_R g a0 6) (tw_t_8_6 hT h0) _ h) (cwV 0 X.2.2.2.2 gX8_wipe_X7_length rfl rfl rfl (by decide +kernel) ⟨Nat.le_of_ble_eq_true rfl, Nat.le_of_ble_eq_true rfl⟩) (tw_preV hK w (tw_t_8_6 hT h0) (by decide) rfl []) rfl rfl hl.1 rfl (lv_room (Nat.le_of_ble_eq_true rfl)) dX8_wipe_4 ⟨Nat.zero_le _, Nat.zero_le _⟩) (fun r2 σ1 H locs h w => ?_)
  refine lv_istore_n (lv' := [(1, .int r2), (0, .ref a0)]) X.1 X.2.1 dX8_wipe_7 rfl hl (by decide) rfl (fun ls hl => ?_)
  refine lv_aload_n X.1 X.2.1 dX8_wipe_8 rfl (lv_at hl 1 rfl) ?_
  refine tw_get X hK w 8 iw_X8_wipe_8 h0 (by decide) rfl 6 (by decide) (List.mem_of_getElem? (i := 1) rfl) rfl dX8_wipe_9 ?_
  refine lv_iconst (v := 1) X.1 X.2.1 dX8_wipe_12 (by decide) ?_
  refine tw_cv w (va_runV (As := [.int (1 : Int32)]) (rest := []) X (ct_X7_become l D g hT _ σ1 (tw_R g a0 6) (tw_t_8_6 hT h0) (1 : Int32) _ h) (cwV 1 X.2.2.2.2 gX8_wipe_X7_become rfl rfl rfl (by decide +kernel) ⟨Nat.le_of_ble_eq_true rfl, Nat.le_of_ble_eq_true rfl⟩) (tw_preV hK w (tw_t_8_6 hT h0) (by decide) rfl [.int (1 : Int32)]) rfl rfl hl.1 rfl (lv_room (Nat.le_of_ble_eq_true rfl)) dX8_wipe_13 ⟨Nat.zero_le _, Nat.zero_le _⟩) (fun σ3 H locs h w => ?_)
  refine lv_iload_n X.1 X.2.1 dX8_wipe_16 rfl (lv_at hl 0 rfl) ?_
  exact tw_iret X hr hlk w h dX8_wipe_17

abbrev RM_X8_firstByRule : Room := { frames := 5, cells := 0, slots := 0, locals := 116 }
theorem iw_X8_firstByRule_8 : ∀ w ∈ wsX80, w ∈ wsX8_firstByRule := fun w h => List.mem_cons_of_mem _ (List.mem_append_left _ (List.mem_append_left _ (List.mem_append_left _ (List.mem_append_left _ (List.mem_append_right _ (h))))))
def wp_X8_firstByRule (g : tw_G) (σ : tw_S) (a0 : Nat) (x1 : Int32) (Q : Int32 → tw_S → Prop) : Prop := wp_X0_at g σ (tw_R g a0 0) (0 : Int32) (fun y2 σ1 => wp_X5_make g σ1 (tw_R g a0 9) y2 (fun σ3 => wp_X0_at g σ3 (tw_R g a0 0) (1 : Int32) (fun y5 σ4 => wp_X5_make g σ4 (tw_R g a0 10) y5 (fun σ6 => wp_X5_isTooMany g σ6 (tw_R g a0 9) (fun r8 σ7 => ((¬ r8 = 0) → (((1 : Int32) = 0) → wp_X4_firstWord g σ7 (tw_R g a0 11) (tw_R g a0 9) (tw_R g a0 10) x1 (fun r12 σ11 => Q r12 σ11)) ∧ (¬ ((1 : Int32) = 0) → Q (-1000000004 : Int32) σ7)) ∧ ((r8 = 0) → wp_X5_isTooMany g σ7 (tw_R g a0 10) (fun r14 σ13 => ((r14 = 0) → (((0 : Int32) = 0) → wp_X4_firstWord g σ13 (tw_R g a0 11) (tw_R g a0 9) (tw_R g a0 10) x1 (fun r18 σ17 => Q r18 σ17)) ∧ (¬ ((0 : Int32) = 0) → Q (-1000000004 : Int32) σ13)) ∧ (¬ (r14 = 0) → (((1 : Int32) = 0) → wp_X4_firstWord g σ13 (tw_R g a0 11) (tw_R g a0 9) (tw_R g a0 10) x1 (fun r21 σ20 => Q r21 σ20)) ∧ (¬ ((1 : Int32) = 0) → Q (-1000000004 : Int32) σ13)))))))))
set_option maxHeartbeats 4000000 in
set_option maxRecDepth 100000 in
theorem ct_X8_firstByRule (l : Launch) (D : va_G) (g : tw_G) (hT : tw_T g) (sz : Nat) (σ : tw_S) (a0 : Nat) (h0 : tw_is g 8 a0) (x1 : Int32) (Q : Int32 → tw_S → Prop) (h : wp_X8_firstByRule g σ a0 x1 Q) : tw_Mi l yX8_firstByRule wsX8_firstByRule RM_X8_firstByRule D g sz σ [.ref a0, .int x1] Q := by
  refine Met.ofW (cc := cX8_firstByRule) (maxL := 3) (ret := (some .int)) (by decide) rfl ?_
  intro p e s m args below meth c s₁ B hml hv
  obtain ⟨rfl, hsz, hP, hK, hD0⟩ := hv
  subst hsz
  have hr := B.returns
  have hlk := B.notSynchronized
  have X : CallFix p m c cX8_firstByRule 3 s _ wsX8_firstByRule RX8 := ⟨B.exec, B.bytes, hml, findClass_of_methodNamed B.named, atoms_spec (ws := wsX8_firstByRule) B.pre⟩
  have w := tw_w0 hP hD0
  have hl := lv_entry ([.ref a0, .int x1]) (n := 3) (Nat.le_of_ble_eq_true rfl)
  rw [lg_entry_eq]
  generalize (lg_sl ([.ref a0, .int x1]) ++ List.replicate (3 - (lg_sl ([.ref a0, .int x1])).length) Slot.unset).toArray = ls at hl ⊢
  have hl : lv_has ls 3 [(0, .ref a0), (1, .int x1)] := hl
  unfold wp_X8_firstByRule at h
  refine lv_aload_n X.1 X.2.1 dX8_firstByRule_0 rfl (lv_at hl 0 rfl) ?_
  refine tw_get X hK w 8 iw_X8_firstByRule_8 h0 (by decide) rfl 9 (by decide) (List.mem_of_getElem? (i := 1) rfl) rfl dX8_firstByRule_1 ?_
  refine lv_aload_n X.1 X.2.1 dX8_firstByRule_4 rfl (lv_at hl 0 rfl) ?_
  refine tw_get X hK w 8 iw_X8_firstByRule_8 h0 (by decide) rfl 0 (by decide) (List.mem_of_getElem? (i := 2) rfl) rfl dX8_firstByRule_5 ?_
  refine lv_iconst (v := 0) X.1 X.2.1 dX8_firstByRule_8 (by decide) ?_
  refine tw_cr w (va_runV (As := [.int (0 : Int32)]) (rest := [.ref (tw_R g a0 9)]) X (ct_X0_at l D g hT _ σ (tw_R g a0 0) (tw_t_8_0 hT h0) (0 : Int32) _ h) (cwV 1 X.2.2.2.2 gX8_firstByRule_X0_at rfl rfl rfl (by decide +kernel) ⟨Nat.le_of_ble_eq_true rfl, Nat.le_of_ble_eq_true rfl⟩) (tw_preV hK w (tw_t_8_0 hT h0) (by decide) rfl [.int (0 : Int32)]) rfl rfl hl.1 rfl (lv_room (Nat.le_of_ble_eq_true rfl)) dX8_firstByRule_9 ⟨Nat.zero_le _, Nat.zero_le _⟩) (fun y2 σ1 H locs hy2 h w => ?_)
  refine tw_cv w (va_runV (As := [.ref y2]) (rest := []) X (ct_X5_make l D g hT _ σ1 (tw_R g a0 9) (tw_t_8_9 hT h0) y2 hy2 _ h) (cwV 1 X.2.2.2.2 gX8_firstByRule_X5_make rfl rfl rfl (by decide +kernel) ⟨Nat.le_of_ble_eq_true rfl, Nat.le_of_ble_eq_true rfl⟩) (tw_preV hK w (tw_t_8_9 hT h0) (by decide) rfl [.ref y2]) rfl rfl hl.1 rfl (lv_room (Nat.le_of_ble_eq_true rfl)) dX8_firstByRule_12 ⟨Nat.zero_le _, Nat.zero_le _⟩) (fun σ3 H locs h w => ?_)
  refine lv_aload_n X.1 X.2.1 dX8_firstByRule_15 rfl (lv_at hl 0 rfl) ?_
  refine tw_get X hK w 8 iw_X8_firstByRule_8 h0 (by decide) rfl 10 (by decide) (List.mem_of_getElem? (i := 3) rfl) rfl dX8_firstByRule_16 ?_
  refine lv_aload_n X.1 X.2.1 dX8_firstByRule_19 rfl (lv_at hl 0 rfl) ?_
  refine tw_get X hK w 8 iw_X8_firstByRule_8 h0 (by decide) rfl 0 (by decide) (List.mem_of_getElem? (i := 2) rfl) rfl dX8_firstByRule_20 ?_
  refine lv_iconst (v := 1) X.1 X.2.1 dX8_firstByRule_23 (by decide) ?_
  refine tw_cr w (va_runV (As := [.int (1 : Int32)]) (rest := [.ref (tw_R g a0 10)]) X (ct_X0_at l D g hT _ σ3 (tw_R g a0 0) (tw_t_8_0 hT h0) (1 : Int32) _ h) (cwV 1 X.2.2.2.2 gX8_firstByRule_X0_at rfl rfl rfl (by decide +kernel) ⟨Nat.le_of_ble_eq_true rfl, Nat.le_of_ble_eq_true rfl⟩) (tw_preV hK w (tw_t_8_0 hT h0) (by decide) rfl [.int (1 : Int32)]) rfl rfl hl.1 rfl (lv_room (Nat.le_of_ble_eq_true rfl)) dX8_firstByRule_24 ⟨Nat.zero_le _, Nat.zero_le _⟩) (fun y5 σ4 H locs hy5 h w => ?_)
  refine tw_cv w (va_runV (As := [.ref y5]) (rest := []) X (ct_X5_make l D g hT _ σ4 (tw_R g a0 10) (tw_t_8_10 hT h0) y5 hy5 _ h) (cwV 1 X.2.2.2.2 gX8_firstByRule_X5_make rfl rfl rfl (by decide +kernel) ⟨Nat.le_of_ble_eq_true rfl, Nat.le_of_ble_eq_true rfl⟩) (tw_preV hK w (tw_t_8_10 hT h0) (by decide) rfl [.ref y5]) rfl rfl hl.1 rfl (lv_room (Nat.le_of_ble_eq_true rfl)) dX8_firstByRule_27 ⟨Nat.zero_le _, Nat.zero_le _⟩) (fun σ6 H locs h w => ?_)
  refine lv_aload_n X.1 X.2.1 dX8_firstByRule_30 rfl (lv_at hl 0 rfl) ?_
  refine tw_get X hK w 8 iw_X8_firstByRule_8 h0 (by decide) rfl 9 (by decide) (List.mem_of_getElem? (i := 1) rfl) rfl dX8_firstByRule_31 ?_
  refine tw_ci w (va_runV (As := []) (rest := []) X (ct_X5_isTooMany l D g hT _ σ6 (tw_R g a0 9) (tw_t_8_9 hT h0) _ h) (cwV 0 X.2.2.2.2 gX8_firstByRule_X5_isTooMany rfl rfl rfl (by decide +kernel) ⟨Nat.le_of_ble_eq_true rfl, Nat.le_of_ble_eq_true rfl⟩) (tw_preV hK w (tw_t_8_9 hT h0) (by decide) rfl []) rfl rfl hl.1 rfl (lv_room (Nat.le_of_ble_eq_true rfl)) dX8_firstByRule_34 ⟨Nat.zero_le _, Nat.zero_le _⟩) (fun r8 σ7 H locs h w => ?_)
  refine lv_if_ne (tgt := 50) X.1 X.2.1 dX8_firstByRule_37 (by decide) (fun c9 => ?_) (fun c9 => ?_)
  · have h := h.1 c9
    refine lv_iconst (v := 1) X.1 X.2.1 dX8_firstByRule_50 (by decide) ?_
    refine lv_goto (tgt := 55) X.1 X.2.1 dX8_firstByRule_51 (by decide) ?_
    refine lv_istore_n (lv' := [(2, .int (1 : Int32)), (0, .ref a0), (1, .int x1)]) X.1 X.2.1 dX8_firstByRule_55 rfl hl (by decide) rfl (fun ls hl => ?_)
    refine lv_iload_n X.1 X.2.1 dX8_firstByRule_56 rfl (lv_at hl 0 rfl) ?_
    refine lv_if_eq (tgt := 65) X.1 X.2.1 dX8_firstByRule_57 (by decide) (fun c10 => ?_) (fun c10 => ?_)
    · have h := h.1 c10
      refine lv_aload_n X.1 X.2.1 dX8_firstByRule_65 rfl (lv_at hl 1 rfl) ?_
      refine tw_get X hK w 8 iw_X8_firstByRule_8 h0 (by decide) rfl 11 (by decide) (List.mem_of_getElem? (i := 5) rfl) rfl dX8_firstByRule_66 ?_
      refine lv_aload_n X.1 X.2.1 dX8_firstByRule_69 rfl (lv_at hl 1 rfl) ?_
      refine tw_get X hK w 8 iw_X8_firstByRule_8 h0 (by decide) rfl 9 (by decide) (List.mem_of_getElem? (i := 1) rfl) rfl dX8_firstByRule_70 ?_
      refine lv_aload_n X.1 X.2.1 dX8_firstByRule_73 rfl (lv_at hl 1 rfl) ?_
      refine tw_get X hK w 8 iw_X8_firstByRule_8 h0 (by decide) rfl 10 (by decide) (List.mem_of_getElem? (i := 3) rfl) rfl dX8_firstByRule_74 ?_
      refine lv_iload_n X.1 X.2.1 dX8_firstByRule_77 rfl (lv_at hl 2 rfl) ?_
      refine tw_ci w (va_runV (As := [.ref (tw_R g a0 9), .ref (tw_R g a0 10), .int x1]) (rest := []) X (ct_X4_firstWord l D g hT _ σ7 (tw_R g a0 11) (tw_t_8_11 hT h0) (tw_R g a0 9) (tw_t_8_9 hT h0) (tw_R g a0 10) (tw_t_8_10 hT h0) x1 _ h) (cwV 3 X.2.2.2.2 gX8_firstByRule_X4_firstWord rfl rfl rfl (by decide +kernel) ⟨Nat.le_of_ble_eq_true rfl, Nat.le_of_ble_eq_true rfl⟩) (tw_preV hK w (tw_t_8_11 hT h0) (by decide) rfl [.ref (tw_R g a0 9), .ref (tw_R g a0 10), .int x1]) rfl rfl hl.1 rfl (lv_room (Nat.le_of_ble_eq_true rfl)) dX8_firstByRule_78 ⟨Nat.zero_le _, Nat.zero_le _⟩) (fun r12 σ11 H locs h w => ?_)
      exact tw_iret X hr hlk w h dX8_firstByRule_81
    · have h := h.2 c10
      refine lv_ldc (own := RX8) (v := -1000000004) X.1 X.2.1 X.2.2.2.1 (X.2.2.2.2 _ (List.mem_of_getElem? (i := 4) rfl)) dX8_firstByRule_60 ?_
      refine lv_goto (tgt := 81) X.1 X.2.1 dX8_firstByRule_62 (by decide) ?_
      exact tw_iret X hr hlk w h dX8_firstByRule_81
  · have h := h.2 c9
    refine lv_aload_n X.1 X.2.1 dX8_firstByRule_40 rfl (lv_at hl 0 rfl) ?_
    refine tw_get X hK w 8 iw_X8_firstByRule_8 h0 (by decide) rfl 10 (by decide) (List.mem_of_getElem? (i := 3) rfl) rfl dX8_firstByRule_41 ?_
    refine tw_ci w (va_runV (As := []) (rest := []) X (ct_X5_isTooMany l D g hT _ σ7 (tw_R g a0 10) (tw_t_8_10 hT h0) _ h) (cwV 0 X.2.2.2.2 gX8_firstByRule_X5_isTooMany rfl rfl rfl (by decide +kernel) ⟨Nat.le_of_ble_eq_true rfl, Nat.le_of_ble_eq_true rfl⟩) (tw_preV hK w (tw_t_8_10 hT h0) (by decide) rfl []) rfl rfl hl.1 rfl (lv_room (Nat.le_of_ble_eq_true rfl)) dX8_firstByRule_44 ⟨Nat.zero_le _, Nat.zero_le _⟩) (fun r14 σ13 H locs h w => ?_)
    refine lv_if_eq (tgt := 54) X.1 X.2.1 dX8_firstByRule_47 (by decide) (fun c15 => ?_) (fun c15 => ?_)
    · have h := h.1 c15
      refine lv_iconst (v := 0) X.1 X.2.1 dX8_firstByRule_54 (by decide) ?_
      refine lv_istore_n (lv' := [(2, .int (0 : Int32)), (0, .ref a0), (1, .int x1)]) X.1 X.2.1 dX8_firstByRule_55 rfl hl (by decide) rfl (fun ls hl => ?_)
      refine lv_iload_n X.1 X.2.1 dX8_firstByRule_56 rfl (lv_at hl 0 rfl) ?_
      refine lv_if_eq (tgt := 65) X.1 X.2.1 dX8_firstByRule_57 (by decide) (fun c16 => ?_) (fun c16 => ?_)
      · have h := h.1 c16
        refine lv_aload_n X.1 X.2.1 dX8_firstByRule_65 rfl (lv_at hl 1 rfl) ?_
        refine tw_get X hK w 8 iw_X8_firstByRule_8 h0 (by decide) rfl 11 (by decide) (List.mem_of_getElem? (i := 5) rfl) rfl dX8_firstByRule_66 ?_
        refine lv_aload_n X.1 X.2.1 dX8_firstByRule_69 rfl (lv_at hl 1 rfl) ?_
        refine tw_get X hK w 8 iw_X8_firstByRule_8 h0 (by decide) rfl 9 (by decide) (List.mem_of_getElem? (i := 1) rfl) rfl dX8_firstByRule_70 ?_
        refine lv_aload_n X.1 X.2.1 dX8_firstByRule_73 rfl (lv_at hl 1 rfl) ?_
        refine tw_get X hK w 8 iw_X8_firstByRule_8 h0 (by decide) rfl 10 (by decide) (List.mem_of_getElem? (i := 3) rfl) rfl dX8_firstByRule_74 ?_
        refine lv_iload_n X.1 X.2.1 dX8_firstByRule_77 rfl (lv_at hl 2 rfl) ?_
        refine tw_ci w (va_runV (As := [.ref (tw_R g a0 9), .ref (tw_R g a0 10), .int x1]) (rest := []) X (ct_X4_firstWord l D g hT _ σ13 (tw_R g a0 11) (tw_t_8_11 hT h0) (tw_R g a0 9) (tw_t_8_9 hT h0) (tw_R g a0 10) (tw_t_8_10 hT h0) x1 _ h) (cwV 3 X.2.2.2.2 gX8_firstByRule_X4_firstWord rfl rfl rfl (by decide +kernel) ⟨Nat.le_of_ble_eq_true rfl, Nat.le_of_ble_eq_true rfl⟩) (tw_preV hK w (tw_t_8_11 hT h0) (by decide) rfl [.ref (tw_R g a0 9), .ref (tw_R g a0 10), .int x1]) rfl rfl hl.1 rfl (lv_room (Nat.le_of_ble_eq_true rfl)) dX8_firstByRule_78 ⟨Nat.zero_le _, Nat.zero_le _⟩) (fun r18 σ17 H locs h w => ?_)
        exact tw_iret X hr hlk w h dX8_firstByRule_81
      · have h := h.2 c16
        refine lv_ldc (own := RX8) (v := -1000000004) X.1 X.2.1 X.2.2.2.1 (X.2.2.2.2 _ (List.mem_of_getElem? (i := 4) rfl)) dX8_firstByRule_60 ?_
        refine lv_goto (tgt := 81) X.1 X.2.1 dX8_firstByRule_62 (by decide) ?_
        exact tw_iret X hr hlk w h dX8_firstByRule_81
    · have h := h.2 c15
      refine lv_iconst (v := 1) X.1 X.2.1 dX8_firstByRule_50 (by decide) ?_
      refine lv_goto (tgt := 55) X.1 X.2.1 dX8_firstByRule_51 (by decide) ?_
      refine lv_istore_n (lv' := [(2, .int (1 : Int32)), (0, .ref a0), (1, .int x1)]) X.1 X.2.1 dX8_firstByRule_55 rfl hl (by decide) rfl (fun ls hl => ?_)
      refine lv_iload_n X.1 X.2.1 dX8_firstByRule_56 rfl (lv_at hl 0 rfl) ?_
      refine lv_if_eq (tgt := 65) X.1 X.2.1 dX8_firstByRule_57 (by decide) (fun c19 => ?_) (fun c19 => ?_)
      · have h := h.1 c19
        refine lv_aload_n X.1 X.2.1 dX8_firstByRule_65 rfl (lv_at hl 1 rfl) ?_
        refine tw_get X hK w 8 iw_X8_firstByRule_8 h0 (by decide) rfl 11 (by decide) (List.mem_of_getElem? (i := 5) rfl) rfl dX8_firstByRule_66 ?_
        refine lv_aload_n X.1 X.2.1 dX8_firstByRule_69 rfl (lv_at hl 1 rfl) ?_
        refine tw_get X hK w 8 iw_X8_firstByRule_8 h0 (by decide) rfl 9 (by decide) (List.mem_of_getElem? (i := 1) rfl) rfl dX8_firstByRule_70 ?_
        refine lv_aload_n X.1 X.2.1 dX8_firstByRule_73 rfl (lv_at hl 1 rfl) ?_
        refine tw_get X hK w 8 iw_X8_firstByRule_8 h0 (by decide) rfl 10 (by decide) (List.mem_of_getElem? (i := 3) rfl) rfl dX8_firstByRule_74 ?_
        refine lv_iload_n X.1 X.2.1 dX8_firstByRule_77 rfl (lv_at hl 2 rfl) ?_
        refine tw_ci w (va_runV (As := [.ref (tw_R g a0 9), .ref (tw_R g a0 10), .int x1]) (rest := []) X (ct_X4_firstWord l D g hT _ σ13 (tw_R g a0 11) (tw_t_8_11 hT h0) (tw_R g a0 9) (tw_t_8_9 hT h0) (tw_R g a0 10) (tw_t_8_10 hT h0) x1 _ h) (cwV 3 X.2.2.2.2 gX8_firstByRule_X4_firstWord rfl rfl rfl (by decide +kernel) ⟨Nat.le_of_ble_eq_true rfl, Nat.le_of_ble_eq_true rfl⟩) (tw_preV hK w (tw_t_8_11 hT h0) (by decide) rfl [.ref (tw_R g a0 9), .ref (tw_R g a0 10), .int x1]) rfl rfl hl.1 rfl (lv_room (Nat.le_of_ble_eq_true rfl)) dX8_firstByRule_78 ⟨Nat.zero_le _, Nat.zero_le _⟩) (fun r21 σ20 H locs h w => ?_)
        exact tw_iret X hr hlk w h dX8_firstByRule_81
      · have h := h.2 c19
        refine lv_ldc (own := RX8) (v := -1000000004) X.1 X.2.1 X.2.2.2.1 (X.2.2.2.2 _ (List.mem_of_getElem? (i := 4) rfl)) dX8_firstByRule_60 ?_
        refine lv_goto (tgt := 81) X.1 X.2.1 dX8_firstByRule_62 (by decide) ?_
        exact tw_iret X hr hlk w h dX8_firstByRule_81

abbrev RM_X8_tellWhetherNone : Room := { frames := 0, cells := 0, slots := 0, locals := 0 }
def wp_X8_tellWhetherNone (g : tw_G) (σ : tw_S) (x0 : Int32) (Q : Int32 → tw_S → Prop) : Prop := ((¬ x0 = (-1000000004 : Int32)) → ((¬ x0 = (-1 : Int32)) → Q (0 : Int32) σ) ∧ ((x0 = (-1 : Int32)) → Q (1 : Int32) σ)) ∧ ((x0 = (-1000000004 : Int32)) → Q (-1000000004 : Int32) σ)
set_option maxHeartbeats 4000000 in
set_option maxRecDepth 100000 in
theorem ct_X8_tellWhetherNone (l : Launch) (D : va_G) (g : tw_G) (hT : tw_T g) (sz : Nat) (σ : tw_S) (x0 : Int32) (Q : Int32 → tw_S → Prop) (h : wp_X8_tellWhetherNone g σ x0 Q) : tw_Mi l yX8_tellWhetherNone wsX8_tellWhetherNone RM_X8_tellWhetherNone D g sz σ [.int x0] Q := by
  refine Met.ofW (cc := cX8_tellWhetherNone) (maxL := 1) (ret := (some .int)) (by decide) rfl ?_
  intro p e s m args below meth c s₁ B hml hv
  obtain ⟨rfl, hsz, hP, hK, hD0⟩ := hv
  subst hsz
  have hr := B.returns
  have hlk := B.notSynchronized
  have X : CallFix p m c cX8_tellWhetherNone 1 s _ wsX8_tellWhetherNone RX8 := ⟨B.exec, B.bytes, hml, findClass_of_methodNamed B.named, atoms_spec (ws := wsX8_tellWhetherNone) B.pre⟩
  have w := tw_w0 hP hD0
  have hl := lv_entry ([.int x0]) (n := 1) (Nat.le_of_ble_eq_true rfl)
  rw [lg_entry_eq]
  generalize (lg_sl ([.int x0]) ++ List.replicate (1 - (lg_sl ([.int x0])).length) Slot.unset).toArray = ls at hl ⊢
  have hl : lv_has ls 1 [(0, .int x0)] := hl
  unfold wp_X8_tellWhetherNone at h
  refine lv_iload_n X.1 X.2.1 dX8_tellWhetherNone_0 rfl (lv_at hl 0 rfl) ?_
  refine lv_ldc (own := RX8) (v := -1000000004) X.1 X.2.1 X.2.2.2.1 (X.2.2.2.2 _ (List.mem_of_getElem? (i := 1) rfl)) dX8_tellWhetherNone_1 ?_
  refine lv_icmp_ne (tgt := 9) X.1 X.2.1 dX8_tellWhetherNone_3 (by decide) (fun c1 => ?_) (fun c1 => ?_)
  · have h := h.1 c1
    refine lv_iload_n X.1 X.2.1 dX8_tellWhetherNone_9 rfl (lv_at hl 0 rfl) ?_
    refine lv_iconst (v := -1) X.1 X.2.1 dX8_tellWhetherNone_10 (by decide) ?_
    refine lv_icmp_ne (tgt := 18) X.1 X.2.1 dX8_tellWhetherNone_11 (by decide) (fun c2 => ?_) (fun c2 => ?_)
    · have h := h.1 c2
      refine lv_iconst (v := 0) X.1 X.2.1 dX8_tellWhetherNone_18 (by decide) ?_
      exact tw_iret X hr hlk w h dX8_tellWhetherNone_19
    · have h := h.2 c2
      refine lv_iconst (v := 1) X.1 X.2.1 dX8_tellWhetherNone_14 (by decide) ?_
      refine lv_goto (tgt := 19) X.1 X.2.1 dX8_tellWhetherNone_15 (by decide) ?_
      exact tw_iret X hr hlk w h dX8_tellWhetherNone_19
  · have h := h.2 c1
    refine lv_ldc (own := RX8) (v := -1000000004) X.1 X.2.1 X.2.2.2.1 (X.2.2.2.2 _ (List.mem_of_getElem? (i := 1) rfl)) dX8_tellWhetherNone_6 ?_
    exact tw_iret X hr hlk w h dX8_tellWhetherNone_8

abbrev RM_X8_told : Room := { frames := 6, cells := 0, slots := 0, locals := 138 }
theorem iw_X8_told_8 : ∀ w ∈ wsX80, w ∈ wsX8_told := fun w h => List.mem_cons_of_mem _ (List.mem_append_left _ (List.mem_append_left _ (List.mem_append_left _ (List.mem_append_left _ (List.mem_append_left _ (List.mem_append_left _ (List.mem_append_left _ (List.mem_append_right _ (h)))))))))
def wp_X8_told (g : tw_G) (σ : tw_S) (a0 : Nat) (x1 : Int32) (Q : Int32 → tw_S → Prop) : Prop := (x1 = 0 → wp_X7_length g σ (tw_R g a0 6) (fun r3 σ2 => Q r3 σ2)) ∧ (¬ x1 = 0 → (x1 = 1 → wp_X7_number g σ (tw_R g a0 6) (fun r6 σ5 => Q r6 σ5)) ∧ (¬ x1 = 1 → (x1 = 2 → wp_X6_length g σ (tw_R g a0 4) (fun r9 σ8 => Q r9 σ8)) ∧ (¬ x1 = 2 → (x1 = 3 → wp_X2_size g σ (tw_R g a0 1) (fun r12 σ11 => Q r12 σ11)) ∧ (¬ x1 = 3 → (x1 = 4 → wp_X8_firstByRule g σ a0 (3 : Int32) (fun r15 σ14 => wp_X8_tellWhetherNone g σ14 r15 (fun r17 σ16 => Q r17 σ16))) ∧ (¬ x1 = 4 → Q (-1000000002 : Int32) σ)))))
set_option maxHeartbeats 4000000 in
set_option maxRecDepth 100000 in
theorem ct_X8_told (l : Launch) (D : va_G) (g : tw_G) (hT : tw_T g) (sz : Nat) (σ : tw_S) (a0 : Nat) (h0 : tw_is g 8 a0) (x1 : Int32) (Q : Int32 → tw_S → Prop) (h : wp_X8_told g σ a0 x1 Q) : tw_Mi l yX8_told wsX8_told RM_X8_told D g sz σ [.ref a0, .int x1] Q := by
  refine Met.ofW (cc := cX8_told) (maxL := 2) (ret := (some .int)) (by decide) rfl ?_
  intro p e s m args below meth c s₁ B hml hv
  obtain ⟨rfl, hsz, hP, hK, hD0⟩ := hv
  subst hsz
  have hr := B.returns
  have hlk := B.notSynchronized
  have X : CallFix p m c cX8_told 2 s _ wsX8_told RX8 := ⟨B.exec, B.bytes, hml, findClass_of_methodNamed B.named, atoms_spec (ws := wsX8_told) B.pre⟩
  have w := tw_w0 hP hD0
  have hl := lv_entry ([.ref a0, .int x1]) (n := 2) (Nat.le_of_ble_eq_true rfl)
  rw [lg_entry_eq]
  generalize (lg_sl ([.ref a0, .int x1]) ++ List.replicate (2 - (lg_sl ([.ref a0, .int x1])).length) Slot.unset).toArray = ls at hl ⊢
  have hl : lv_has ls 2 [(0, .ref a0), (1, .int x1)] := hl
  unfold wp_X8_told at h
  refine lv_iload_n X.1 X.2.1 dX8_told_0 rfl (lv_at hl 1 rfl) ?_
  by_cases c1 : x1 = 0
  · have h := h.1 c1
    refine lv_tableIn (off := 35) (tgt := 36) X.1 X.2.1 dX8_told_1 (by rw [c1] <;> decide) (by rw [c1] <;> decide) (by rw [c1] <;> decide) (by decide) ?_
    refine lv_aload_n X.1 X.2.1 dX8_told_36 rfl (lv_at hl 0 rfl) ?_
    refine tw_get X hK w 8 iw_X8_told_8 h0 (by decide) rfl 6 (by decide) (List.mem_of_getElem? (i := 1) rfl) rfl dX8_told_37 ?_
    refine tw_ci w (va_runV (As := []) (rest := []) X (ct_X7_length l D g hT _ σ (tw_R g a0 6) (tw_t_8_6 hT h0) _ h) (cwV 0 X.2.2.2.2 gX8_told_X7_length rfl rfl rfl (by decide +kernel) ⟨Nat.le_of_ble_eq_true rfl, Nat.le_of_ble_eq_true rfl⟩) (tw_preV hK w (tw_t_8_6 hT h0) (by decide) rfl []) rfl rfl hl.1 rfl (lv_room (Nat.le_of_ble_eq_true rfl)) dX8_told_40 ⟨Nat.zero_le _, Nat.zero_le _⟩) (fun r3 σ2 H locs h w => ?_)
    exact tw_iret X hr hlk w h dX8_told_43
  · have h := h.2 c1
    by_cases c4 : x1 = 1
    · have h := h.1 c4
      refine lv_tableIn (off := 43) (tgt := 44) X.1 X.2.1 dX8_told_1 (by rw [c4] <;> decide) (by rw [c4] <;> decide) (by rw [c4] <;> decide) (by decide) ?_
      refine lv_aload_n X.1 X.2.1 dX8_told_44 rfl (lv_at hl 0 rfl) ?_
      refine tw_get X hK w 8 iw_X8_told_8 h0 (by decide) rfl 6 (by decide) (List.mem_of_getElem? (i := 1) rfl) rfl dX8_told_45 ?_
      refine tw_ci w (va_runV (As := []) (rest := []) X (ct_X7_number l D g hT _ σ (tw_R g a0 6) (tw_t_8_6 hT h0) _ h) (cwV 0 X.2.2.2.2 gX8_told_X7_number rfl rfl rfl (by decide +kernel) ⟨Nat.le_of_ble_eq_true rfl, Nat.le_of_ble_eq_true rfl⟩) (tw_preV hK w (tw_t_8_6 hT h0) (by decide) rfl []) rfl rfl hl.1 rfl (lv_room (Nat.le_of_ble_eq_true rfl)) dX8_told_48 ⟨Nat.zero_le _, Nat.zero_le _⟩) (fun r6 σ5 H locs h w => ?_)
      exact tw_iret X hr hlk w h dX8_told_51
    · have h := h.2 c4
      by_cases c7 : x1 = 2
      · have h := h.1 c7
        refine lv_tableIn (off := 51) (tgt := 52) X.1 X.2.1 dX8_told_1 (by rw [c7] <;> decide) (by rw [c7] <;> decide) (by rw [c7] <;> decide) (by decide) ?_
        refine lv_aload_n X.1 X.2.1 dX8_told_52 rfl (lv_at hl 0 rfl) ?_
        refine tw_get X hK w 8 iw_X8_told_8 h0 (by decide) rfl 4 (by decide) (List.mem_of_getElem? (i := 2) rfl) rfl dX8_told_53 ?_
        refine tw_ci w (va_runV (As := []) (rest := []) X (ct_X6_length l D g hT _ σ (tw_R g a0 4) (tw_t_8_4 hT h0) _ h) (cwV 0 X.2.2.2.2 gX8_told_X6_length rfl rfl rfl (by decide +kernel) ⟨Nat.le_of_ble_eq_true rfl, Nat.le_of_ble_eq_true rfl⟩) (tw_preV hK w (tw_t_8_4 hT h0) (by decide) rfl []) rfl rfl hl.1 rfl (lv_room (Nat.le_of_ble_eq_true rfl)) dX8_told_56 ⟨Nat.zero_le _, Nat.zero_le _⟩) (fun r9 σ8 H locs h w => ?_)
        exact tw_iret X hr hlk w h dX8_told_59
      · have h := h.2 c7
        by_cases c10 : x1 = 3
        · have h := h.1 c10
          refine lv_tableIn (off := 59) (tgt := 60) X.1 X.2.1 dX8_told_1 (by rw [c10] <;> decide) (by rw [c10] <;> decide) (by rw [c10] <;> decide) (by decide) ?_
          refine lv_aload_n X.1 X.2.1 dX8_told_60 rfl (lv_at hl 0 rfl) ?_
          refine tw_get X hK w 8 iw_X8_told_8 h0 (by decide) rfl 1 (by decide) (List.mem_of_getElem? (i := 3) rfl) rfl dX8_told_61 ?_
          refine tw_ci w (va_runV (As := []) (rest := []) X (ct_X2_size l D g hT _ σ (tw_R g a0 1) (tw_t_8_1 hT h0) _ h) (cwV 0 X.2.2.2.2 gX8_told_X2_size rfl rfl rfl (by decide +kernel) ⟨Nat.le_of_ble_eq_true rfl, Nat.le_of_ble_eq_true rfl⟩) (tw_preV hK w (tw_t_8_1 hT h0) (by decide) rfl []) rfl rfl hl.1 rfl (lv_room (Nat.le_of_ble_eq_true rfl)) dX8_told_64 ⟨Nat.zero_le _, Nat.zero_le _⟩) (fun r12 σ11 H locs h w => ?_)
          exact tw_iret X hr hlk w h dX8_told_67
        · have h := h.2 c10
          by_cases c13 : x1 = 4
          · have h := h.1 c13
            refine lv_tableIn (off := 67) (tgt := 68) X.1 X.2.1 dX8_told_1 (by rw [c13] <;> decide) (by rw [c13] <;> decide) (by rw [c13] <;> decide) (by decide) ?_
            refine lv_aload_n X.1 X.2.1 dX8_told_68 rfl (lv_at hl 0 rfl) ?_
            refine lv_iconst (v := 3) X.1 X.2.1 dX8_told_69 (by decide) ?_
            refine tw_ci w (va_runV (As := [.int (3 : Int32)]) (rest := []) X (ct_X8_firstByRule l D g hT _ σ a0 h0 (3 : Int32) _ h) (cwV 1 X.2.2.2.2 gX8_told_X8_firstByRule rfl rfl rfl (by decide +kernel) ⟨Nat.le_of_ble_eq_true rfl, Nat.le_of_ble_eq_true rfl⟩) (tw_preV hK w h0 (by decide) rfl [.int (3 : Int32)]) rfl rfl hl.1 rfl (lv_room (Nat.le_of_ble_eq_true rfl)) dX8_told_70 ⟨Nat.zero_le _, Nat.zero_le _⟩) (fun r15 σ14 H locs h w => ?_)
            refine tw_ci w (va_runS (As := [.int r15]) (rest := []) X (ct_X8_tellWhetherNone l D g hT _ σ14 r15 _ h) (va_cwS 1 X.2.2.2.2 gX8_told_X8_tellWhetherNone rfl rfl rfl (by decide +kernel) ⟨Nat.le_of_ble_eq_true rfl, Nat.le_of_ble_eq_true rfl⟩) (tw_pre hK w [.int r15]) rfl rfl hl.1 rfl (lv_room (Nat.le_of_ble_eq_true rfl)) dX8_told_73 ⟨Nat.zero_le _, Nat.zero_le _⟩) (fun r17 σ16 H locs h w => ?_)
            exact tw_iret X hr hlk w h dX8_told_76
          · have h := h.2 c13
            have ec1 := lv_neT (a := 0) c1 rfl
            have ec4 := lv_neT (a := 1) c4 rfl
            have ec7 := lv_neT (a := 2) c7 rfl
            have ec10 := lv_neT (a := 3) c10 rfl
            have ec13 := lv_neT (a := 4) c13 rfl
            refine lv_tableOut (tgt := 77) X.1 X.2.1 dX8_told_1 (by omega) (by decide) ?_
            refine lv_ldc (own := RX8) (v := -1000000002) X.1 X.2.1 X.2.2.2.1 (X.2.2.2.2 _ (List.mem_of_getElem? (i := 4) rfl)) dX8_told_77 ?_
            exact tw_iret X hr hlk w h dX8_told_79

abbrev RM_X8_run : Room := { frames := 4, cells := 0, slots := 0, locals := 89 }
theorem iw_X8_run_8 : ∀ w ∈ wsX80, w ∈ wsX8_run := fun w h => List.mem_cons_of_mem _ (List.mem_append_left _ (List.mem_append_left _ (List.mem_append_left _ (List.mem_append_left _ (List.mem_append_right _ (h))))))
def wp_X8_run (g : tw_G) (σ : tw_S) (a0 : Nat) (x1 : Int32) (x2 : Int32) (Q : Int32 → tw_S → Prop) : Prop := wp_X8_isMachine g σ x1 (fun r2 σ1 => ((¬ r2 = 0) → ((x2 < 0) → Q (-1000000002 : Int32) σ1) ∧ (¬ (x2 < 0) → ((x2 ≤ (5 : Int32)) → wp_X0_at g σ1 (tw_R g a0 0) x1 (fun y7 σ6 => wp_X1_follow g σ6 (tw_R g a0 8) y7 (tw_R g a0 6) (fun σ8 => (x2 = 0 → wp_X1_isTaken g σ8 (tw_R g a0 8) (fun r11 σ10 => ((r11 = 0) → Q (0 : Int32) σ10) ∧ (¬ (r11 = 0) → Q (1 : Int32) σ10))) ∧ (¬ x2 = 0 → (x2 = 1 → wp_X1_ending g σ8 (tw_R g a0 8) (fun r15 σ14 => Q r15 σ14)) ∧ (¬ x2 = 1 → (x2 = 2 → wp_X1_steps g σ8 (tw_R g a0 8) (fun r18 σ17 => Q r18 σ17)) ∧ (¬ x2 = 2 → (x2 = 3 → wp_X1_lastState g σ8 (tw_R g a0 8) (fun r21 σ20 => Q r21 σ20)) ∧ (¬ x2 = 3 → (x2 = 4 → wp_X7_length g σ8 (tw_R g a0 6) (fun r24 σ23 => wp_X1_countGaps g σ23 (tw_R g a0 8) r24 (fun r26 σ25 => Q r26 σ25))) ∧ (¬ x2 = 4 → wp_X7_length g σ8 (tw_R g a0 6) (fun r28 σ27 => wp_X1_busiestGap g σ27 (tw_R g a0 8) r28 (fun r30 σ29 => Q r30 σ29)))))))))) ∧ (¬ (x2 ≤ (5 : Int32)) → Q (-1000000002 : Int32) σ1))) ∧ ((r2 = 0) → Q (-1000000001 : Int32) σ1))
set_option maxHeartbeats 4000000 in
set_option maxRecDepth 100000 in
theorem ct_X8_run (l : Launch) (D : va_G) (g : tw_G) (hT : tw_T g) (sz : Nat) (σ : tw_S) (a0 : Nat) (h0 : tw_is g 8 a0) (x1 : Int32) (x2 : Int32) (Q : Int32 → tw_S → Prop) (h : wp_X8_run g σ a0 x1 x2 Q) : tw_Mi l yX8_run wsX8_run RM_X8_run D g sz σ [.ref a0, .int x1, .int x2] Q := by
  refine Met.ofW (cc := cX8_run) (maxL := 3) (ret := (some .int)) (by decide) rfl ?_
  intro p e s m args below meth c s₁ B hml hv
  obtain ⟨rfl, hsz, hP, hK, hD0⟩ := hv
  subst hsz
  have hr := B.returns
  have hlk := B.notSynchronized
  have X : CallFix p m c cX8_run 3 s _ wsX8_run RX8 := ⟨B.exec, B.bytes, hml, findClass_of_methodNamed B.named, atoms_spec (ws := wsX8_run) B.pre⟩
  have w := tw_w0 hP hD0
  have hl := lv_entry ([.ref a0, .int x1, .int x2]) (n := 3) (Nat.le_of_ble_eq_true rfl)
  rw [lg_entry_eq]
  generalize (lg_sl ([.ref a0, .int x1, .int x2]) ++ List.replicate (3 - (lg_sl ([.ref a0, .int x1, .int x2])).length) Slot.unset).toArray = ls at hl ⊢
  have hl : lv_has ls 3 [(0, .ref a0), (1, .int x1), (2, .int x2)] := hl
  unfold wp_X8_run at h
  refine lv_iload_n X.1 X.2.1 dX8_run_0 rfl (lv_at hl 1 rfl) ?_
  refine tw_ci w (va_runS (As := [.int x1]) (rest := []) X (ct_X8_isMachine l D g hT _ σ x1 _ h) (va_cwS 1 X.2.2.2.2 gX8_run_X8_isMachine rfl rfl rfl (by decide +kernel) ⟨Nat.le_of_ble_eq_true rfl, Nat.le_of_ble_eq_true rfl⟩) (tw_pre hK w [.int x1]) rfl rfl hl.1 rfl (lv_room (Nat.le_of_ble_eq_true rfl)) dX8_run_1 ⟨Nat.zero_le _, Nat.zero_le _⟩) (fun r2 σ1 H locs h w => ?_)
  refine lv_if_ne (tgt := 10) X.1 X.2.1 dX8_run_4 (by decide) (fun c3 => ?_) (fun c3 => ?_)
  · have h := h.1 c3
    refine lv_iload_n X.1 X.2.1 dX8_run_10 rfl (lv_at hl 2 rfl) ?_
    refine lv_if_lt (tgt := 19) X.1 X.2.1 dX8_run_11 (by decide) (fun c4 => ?_) (fun c4 => ?_)
    · have h := h.1 c4
      refine lv_ldc (own := RX8) (v := -1000000002) X.1 X.2.1 X.2.2.2.1 (X.2.2.2.2 _ (List.mem_of_getElem? (i := 2) rfl)) dX8_run_19 ?_
      exact tw_iret X hr hlk w h dX8_run_21
    · have h := h.2 c4
      refine lv_iload_n X.1 X.2.1 dX8_run_14 rfl (lv_at hl 2 rfl) ?_
      refine lv_iconst (v := 5) X.1 X.2.1 dX8_run_15 (by decide) ?_
      refine lv_icmp_le (tgt := 22) X.1 X.2.1 dX8_run_16 (by decide) (fun c5 => ?_) (fun c5 => ?_)
      · have h := h.1 c5
        refine lv_aload_n X.1 X.2.1 dX8_run_22 rfl (lv_at hl 0 rfl) ?_
        refine tw_get X hK w 8 iw_X8_run_8 h0 (by decide) rfl 8 (by decide) (List.mem_of_getElem? (i := 3) rfl) rfl dX8_run_23 ?_
        refine lv_aload_n X.1 X.2.1 dX8_run_26 rfl (lv_at hl 0 rfl) ?_
        refine tw_get X hK w 8 iw_X8_run_8 h0 (by decide) rfl 0 (by decide) (List.mem_of_getElem? (i := 4) rfl) rfl dX8_run_27 ?_
        refine lv_iload_n X.1 X.2.1 dX8_run_30 rfl (lv_at hl 1 rfl) ?_
        refine tw_cr w (va_runV (As := [.int x1]) (rest := [.ref (tw_R g a0 8)]) X (ct_X0_at l D g hT _ σ1 (tw_R g a0 0) (tw_t_8_0 hT h0) x1 _ h) (cwV 1 X.2.2.2.2 gX8_run_X0_at rfl rfl rfl (by decide +kernel) ⟨Nat.le_of_ble_eq_true rfl, Nat.le_of_ble_eq_true rfl⟩) (tw_preV hK w (tw_t_8_0 hT h0) (by decide) rfl [.int x1]) rfl rfl hl.1 rfl (lv_room (Nat.le_of_ble_eq_true rfl)) dX8_run_31 ⟨Nat.zero_le _, Nat.zero_le _⟩) (fun y7 σ6 H locs hy7 h w => ?_)
        refine lv_aload_n X.1 X.2.1 dX8_run_34 rfl (lv_at hl 0 rfl) ?_
        refine tw_get X hK w 8 iw_X8_run_8 h0 (by decide) rfl 6 (by decide) (List.mem_of_getElem? (i := 5) rfl) rfl dX8_run_35 ?_
        refine tw_cv w (va_runV (As := [.ref y7, .ref (tw_R g a0 6)]) (rest := []) X (ct_X1_follow l D g hT _ σ6 (tw_R g a0 8) (tw_t_8_8 hT h0) y7 hy7 (tw_R g a0 6) (tw_t_8_6 hT h0) _ h) (cwV 2 X.2.2.2.2 gX8_run_X1_follow rfl rfl rfl (by decide +kernel) ⟨Nat.le_of_ble_eq_true rfl, Nat.le_of_ble_eq_true rfl⟩) (tw_preV hK w (tw_t_8_8 hT h0) (by decide) rfl [.ref y7, .ref (tw_R g a0 6)]) rfl rfl hl.1 rfl (lv_room (Nat.le_of_ble_eq_true rfl)) dX8_run_38 ⟨Nat.zero_le _, Nat.zero_le _⟩) (fun σ8 H locs h w => ?_)
        refine lv_iload_n X.1 X.2.1 dX8_run_41 rfl (lv_at hl 2 rfl) ?_
        by_cases c9 : x2 = 0
        · have h := h.1 c9
          refine lv_tableIn (off := 34) (tgt := 76) X.1 X.2.1 dX8_run_42 (by rw [c9] <;> decide) (by rw [c9] <;> decide) (by rw [c9] <;> decide) (by decide) ?_
          refine lv_aload_n X.1 X.2.1 dX8_run_76 rfl (lv_at hl 0 rfl) ?_
          refine tw_get X hK w 8 iw_X8_run_8 h0 (by decide) rfl 8 (by decide) (List.mem_of_getElem? (i := 3) rfl) rfl dX8_run_77 ?_
          refine tw_ci w (va_runV (As := []) (rest := []) X (ct_X1_isTaken l D g hT _ σ8 (tw_R g a0 8) (tw_t_8_8 hT h0) _ h) (cwV 0 X.2.2.2.2 gX8_run_X1_isTaken rfl rfl rfl (by decide +kernel) ⟨Nat.le_of_ble_eq_true rfl, Nat.le_of_ble_eq_true rfl⟩) (tw_preV hK w (tw_t_8_8 hT h0) (by decide) rfl []) rfl rfl hl.1 rfl (lv_room (Nat.le_of_ble_eq_true rfl)) dX8_run_80 ⟨Nat.zero_le _, Nat.zero_le _⟩) (fun r11 σ10 H locs h w => ?_)
          refine lv_if_eq (tgt := 90) X.1 X.2.1 dX8_run_83 (by decide) (fun c12 => ?_) (fun c12 => ?_)
          · have h := h.1 c12
            refine lv_iconst (v := 0) X.1 X.2.1 dX8_run_90 (by decide) ?_
            exact tw_iret X hr hlk w h dX8_run_91
          · have h := h.2 c12
            refine lv_iconst (v := 1) X.1 X.2.1 dX8_run_86 (by decide) ?_
            refine lv_goto (tgt := 91) X.1 X.2.1 dX8_run_87 (by decide) ?_
            exact tw_iret X hr hlk w h dX8_run_91
        · have h := h.2 c9
          by_cases c13 : x2 = 1
          · have h := h.1 c13
            refine lv_tableIn (off := 50) (tgt := 92) X.1 X.2.1 dX8_run_42 (by rw [c13] <;> decide) (by rw [c13] <;> decide) (by rw [c13] <;> decide) (by decide) ?_
            refine lv_aload_n X.1 X.2.1 dX8_run_92 rfl (lv_at hl 0 rfl) ?_
            refine tw_get X hK w 8 iw_X8_run_8 h0 (by decide) rfl 8 (by decide) (List.mem_of_getElem? (i := 3) rfl) rfl dX8_run_93 ?_
            refine tw_ci w (va_runV (As := []) (rest := []) X (ct_X1_ending l D g hT _ σ8 (tw_R g a0 8) (tw_t_8_8 hT h0) _ h) (cwV 0 X.2.2.2.2 gX8_run_X1_ending rfl rfl rfl (by decide +kernel) ⟨Nat.le_of_ble_eq_true rfl, Nat.le_of_ble_eq_true rfl⟩) (tw_preV hK w (tw_t_8_8 hT h0) (by decide) rfl []) rfl rfl hl.1 rfl (lv_room (Nat.le_of_ble_eq_true rfl)) dX8_run_96 ⟨Nat.zero_le _, Nat.zero_le _⟩) (fun r15 σ14 H locs h w => ?_)
            exact tw_iret X hr hlk w h dX8_run_99
          · have h := h.2 c13
            by_cases c16 : x2 = 2
            · have h := h.1 c16
              refine lv_tableIn (off := 58) (tgt := 100) X.1 X.2.1 dX8_run_42 (by rw [c16] <;> decide) (by rw [c16] <;> decide) (by rw [c16] <;> decide) (by decide) ?_
              refine lv_aload_n X.1 X.2.1 dX8_run_100 rfl (lv_at hl 0 rfl) ?_
              refine tw_get X hK w 8 iw_X8_run_8 h0 (by decide) rfl 8 (by decide) (List.mem_of_getElem? (i := 3) rfl) rfl dX8_run_101 ?_
              refine tw_ci w (va_runV (As := []) (rest := []) X (ct_X1_steps l D g hT _ σ8 (tw_R g a0 8) (tw_t_8_8 hT h0) _ h) (cwV 0 X.2.2.2.2 gX8_run_X1_steps rfl rfl rfl (by decide +kernel) ⟨Nat.le_of_ble_eq_true rfl, Nat.le_of_ble_eq_true rfl⟩) (tw_preV hK w (tw_t_8_8 hT h0) (by decide) rfl []) rfl rfl hl.1 rfl (lv_room (Nat.le_of_ble_eq_true rfl)) dX8_run_104 ⟨Nat.zero_le _, Nat.zero_le _⟩) (fun r18 σ17 H locs h w => ?_)
              exact tw_iret X hr hlk w h dX8_run_107
            · have h := h.2 c16
              by_cases c19 : x2 = 3
              · have h := h.1 c19
                refine lv_tableIn (off := 66) (tgt := 108) X.1 X.2.1 dX8_run_42 (by rw [c19] <;> decide) (by rw [c19] <;> decide) (by rw [c19] <;> decide) (by decide) ?_
                refine lv_aload_n X.1 X.2.1 dX8_run_108 rfl (lv_at hl 0 rfl) ?_
                refine tw_get X hK w 8 iw_X8_run_8 h0 (by decide) rfl 8 (by decide) (List.mem_of_getElem? (i := 3) rfl) rfl dX8_run_109 ?_
                refine tw_ci w (va_runV (As := []) (rest := []) X (ct_X1_lastState l D g hT _ σ8 (tw_R g a0 8) (tw_t_8_8 hT h0) _ h) (cwV 0 X.2.2.2.2 gX8_run_X1_lastState rfl rfl rfl (by decide +kernel) ⟨Nat.le_of_ble_eq_true rfl, Nat.le_of_ble_eq_true rfl⟩) (tw_preV hK w (tw_t_8_8 hT h0) (by decide) rfl []) rfl rfl hl.1 rfl (lv_room (Nat.le_of_ble_eq_true rfl)) dX8_run_112 ⟨Nat.zero_le _, Nat.zero_le _⟩) (fun r21 σ20 H locs h w => ?_)
                exact tw_iret X hr hlk w h dX8_run_115
              · have h := h.2 c19
                by_cases c22 : x2 = 4
                · have h := h.1 c22
                  refine lv_tableIn (off := 74) (tgt := 116) X.1 X.2.1 dX8_run_42 (by rw [c22] <;> decide) (by rw [c22] <;> decide) (by rw [c22] <;> decide) (by decide) ?_
                  refine lv_aload_n X.1 X.2.1 dX8_run_116 rfl (lv_at hl 0 rfl) ?_
                  refine tw_get X hK w 8 iw_X8_run_8 h0 (by decide) rfl 8 (by decide) (List.mem_of_getElem? (i := 3) rfl) rfl dX8_run_117 ?_
                  refine lv_aload_n X.1 X.2.1 dX8_run_120 rfl (lv_at hl 0 rfl) ?_
                  refine tw_get X hK w 8 iw_X8_run_8 h0 (by decide) rfl 6 (by decide) (List.mem_of_getElem? (i := 5) rfl) rfl dX8_run_121 ?_
                  refine tw_ci w (va_runV (As := []) (rest := [.ref (tw_R g a0 8)]) X (ct_X7_length l D g hT _ σ8 (tw_R g a0 6) (tw_t_8_6 hT h0) _ h) (cwV 0 X.2.2.2.2 gX8_run_X7_length rfl rfl rfl (by decide +kernel) ⟨Nat.le_of_ble_eq_true rfl, Nat.le_of_ble_eq_true rfl⟩) (tw_preV hK w (tw_t_8_6 hT h0) (by decide) rfl []) rfl rfl hl.1 rfl (lv_room (Nat.le_of_ble_eq_true rfl)) dX8_run_124 ⟨Nat.zero_le _, Nat.zero_le _⟩) (fun r24 σ23 H locs h w => ?_)
                  refine tw_ci w (va_runV (As := [.int r24]) (rest := []) X (ct_X1_countGaps l D g hT _ σ23 (tw_R g a0 8) (tw_t_8_8 hT h0) r24 _ h) (cwV 1 X.2.2.2.2 gX8_run_X1_countGaps rfl rfl rfl (by decide +kernel) ⟨Nat.le_of_ble_eq_true rfl, Nat.le_of_ble_eq_true rfl⟩) (tw_preV hK w (tw_t_8_8 hT h0) (by decide) rfl [.int r24]) rfl rfl hl.1 rfl (lv_room (Nat.le_of_ble_eq_true rfl)) dX8_run_127 ⟨Nat.zero_le _, Nat.zero_le _⟩) (fun r26 σ25 H locs h w => ?_)
                  exact tw_iret X hr hlk w h dX8_run_130
                · have h := h.2 c22
                  have ec9 := lv_neT (a := 0) c9 rfl
                  have ec13 := lv_neT (a := 1) c13 rfl
                  have ec16 := lv_neT (a := 2) c16 rfl
                  have ec19 := lv_neT (a := 3) c19 rfl
                  have ec22 := lv_neT (a := 4) c22 rfl
                  refine lv_tableOut (tgt := 131) X.1 X.2.1 dX8_run_42 (by omega) (by decide) ?_
                  refine lv_aload_n X.1 X.2.1 dX8_run_131 rfl (lv_at hl 0 rfl) ?_
                  refine tw_get X hK w 8 iw_X8_run_8 h0 (by decide) rfl 8 (by decide) (List.mem_of_getElem? (i := 3) rfl) rfl dX8_run_132 ?_
                  refine lv_aload_n X.1 X.2.1 dX8_run_135 rfl (lv_at hl 0 rfl) ?_
                  refine tw_get X hK w 8 iw_X8_run_8 h0 (by decide) rfl 6 (by decide) (List.mem_of_getElem? (i := 5) rfl) rfl dX8_run_136 ?_
                  refine tw_ci w (va_runV (As := []) (rest := [.ref (tw_R g a0 8)]) X (ct_X7_length l D g hT _ σ8 (tw_R g a0 6) (tw_t_8_6 hT h0) _ h) (cwV 0 X.2.2.2.2 gX8_run_X7_length rfl rfl rfl (by decide +kernel) ⟨Nat.le_of_ble_eq_true rfl, Nat.le_of_ble_eq_true rfl⟩) (tw_preV hK w (tw_t_8_6 hT h0) (by decide) rfl []) rfl rfl hl.1 rfl (lv_room (Nat.le_of_ble_eq_true rfl)) dX8_run_139 ⟨Nat.zero_le _, Nat.zero_le _⟩) (fun r28 σ27 H locs h w => ?_)
                  refine tw_ci w (va_runV (As := [.int r28]) (rest := []) X (ct_X1_busiestGap l D g hT _ σ27 (tw_R g a0 8) (tw_t_8_8 hT h0) r28 _ h) (cwV 1 X.2.2.2.2 gX8_run_X1_busiestGap rfl rfl rfl (by decide +kernel) ⟨Nat.le_of_ble_eq_true rfl, Nat.le_of_ble_eq_true rfl⟩) (tw_preV hK w (tw_t_8_8 hT h0) (by decide) rfl [.int r28]) rfl rfl hl.1 rfl (lv_room (Nat.le_of_ble_eq_true rfl)) dX8_run_142 ⟨Nat.zero_le _, Nat.zero_le _⟩) (fun r30 σ29 H locs h w => ?_)
                  exact tw_iret X hr hlk w h dX8_run_145
      · have h := h.2 c5
        refine lv_ldc (own := RX8) (v := -1000000002) X.1 X.2.1 X.2.2.2.1 (X.2.2.2.2 _ (List.mem_of_getElem? (i := 2) rfl)) dX8_run_19 ?_
        exact tw_iret X hr hlk w h dX8_run_21
  · have h := h.2 c3
    refine lv_ldc (own := RX8) (v := -1000000001) X.1 X.2.1 X.2.2.2.1 (X.2.2.2.2 _ (List.mem_of_getElem? (i := 1) rfl)) dX8_run_7 ?_
    exact tw_iret X hr hlk w h dX8_run_9

abbrev RM_X8_crossed : Room := { frames := 4, cells := 0, slots := 0, locals := 89 }
theorem iw_X8_crossed_8 : ∀ w ∈ wsX80, w ∈ wsX8_crossed := fun w h => List.mem_cons_of_mem _ (List.mem_append_left _ (List.mem_append_left _ (List.mem_append_left _ (List.mem_append_left _ (List.mem_append_right _ (h))))))
def wp_X8_crossed (g : tw_G) (σ : tw_S) (a0 : Nat) (x1 : Int32) (x2 : Int32) (x3 : Int32) (Q : Int32 → tw_S → Prop) : Prop := wp_X8_isMachine g σ x1 (fun r2 σ1 => ((¬ r2 = 0) → ((x2 < 0) → Q (-1000000002 : Int32) σ1) ∧ (¬ (x2 < 0) → wp_X7_length g σ1 (tw_R g a0 6) (fun r6 σ5 => ((r6 < x2) → Q (-1000000002 : Int32) σ5) ∧ (¬ (r6 < x2) → (((-1 : Int32) ≤ x3) → wp_X0_at g σ5 (tw_R g a0 0) x1 (fun y10 σ9 => wp_X1_follow g σ9 (tw_R g a0 8) y10 (tw_R g a0 6) (fun σ11 => ((¬ x3 = (-1 : Int32)) → wp_X1_stateAt g σ11 (tw_R g a0 8) x2 x3 (fun r14 σ13 => Q r14 σ13)) ∧ ((x3 = (-1 : Int32)) → wp_X1_howOften g σ11 (tw_R g a0 8) x2 (fun r16 σ15 => Q r16 σ15))))) ∧ (¬ ((-1 : Int32) ≤ x3) → Q (-1000000002 : Int32) σ5))))) ∧ ((r2 = 0) → Q (-1000000001 : Int32) σ1))
set_option maxHeartbeats 4000000 in
set_option maxRecDepth 100000 in
theorem ct_X8_crossed (l : Launch) (D : va_G) (g : tw_G) (hT : tw_T g) (sz : Nat) (σ : tw_S) (a0 : Nat) (h0 : tw_is g 8 a0) (x1 : Int32) (x2 : Int32) (x3 : Int32) (Q : Int32 → tw_S → Prop) (h : wp_X8_crossed g σ a0 x1 x2 x3 Q) : tw_Mi l yX8_crossed wsX8_crossed RM_X8_crossed D g sz σ [.ref a0, .int x1, .int x2, .int x3] Q := by
  refine Met.ofW (cc := cX8_crossed) (maxL := 4) (ret := (some .int)) (by decide) rfl ?_
  intro p e s m args below meth c s₁ B hml hv
  obtain ⟨rfl, hsz, hP, hK, hD0⟩ := hv
  subst hsz
  have hr := B.returns
  have hlk := B.notSynchronized
  have X : CallFix p m c cX8_crossed 4 s _ wsX8_crossed RX8 := ⟨B.exec, B.bytes, hml, findClass_of_methodNamed B.named, atoms_spec (ws := wsX8_crossed) B.pre⟩
  have w := tw_w0 hP hD0
  have hl := lv_entry ([.ref a0, .int x1, .int x2, .int x3]) (n := 4) (Nat.le_of_ble_eq_true rfl)
  rw [lg_entry_eq]
  generalize (lg_sl ([.ref a0, .int x1, .int x2, .int x3]) ++ List.replicate (4 - (lg_sl ([.ref a0, .int x1, .int x2, .int x3])).length) Slot.unset).toArray = ls at hl ⊢
  have hl : lv_has ls 4 [(0, .ref a0), (1, .int x1), (2, .int x2), (3, .int x3)] := hl
  unfold wp_X8_crossed at h
  refine lv_iload_n X.1 X.2.1 dX8_crossed_0 rfl (lv_at hl 1 rfl) ?_
  refine tw_ci w (va_runS (As := [.int x1]) (rest := []) X (ct_X8_isMachine l D g hT _ σ x1 _ h) (va_cwS 1 X.2.2.2.2 gX8_crossed_X8_isMachine rfl rfl rfl (by decide +kernel) ⟨Nat.le_of_ble_eq_true rfl, Nat.le_of_ble_eq_true rfl⟩) (tw_pre hK w [.int x1]) rfl rfl hl.1 rfl (lv_room (Nat.le_of_ble_eq_true rfl)) dX8_crossed_1 ⟨Nat.zero_le _, Nat.zero_le _⟩) (fun r2 σ1 H locs h w => ?_)
  refine lv_if_ne (tgt := 10) X.1 X.2.1 dX8_crossed_4 (by decide) (fun c3 => ?_) (fun c3 => ?_)
  · have h := h.1 c3
    refine lv_iload_n X.1 X.2.1 dX8_crossed_10 rfl (lv_at hl 2 rfl) ?_
    refine lv_if_lt (tgt := 30) X.1 X.2.1 dX8_crossed_11 (by decide) (fun c4 => ?_) (fun c4 => ?_)
    · have h := h.1 c4
      refine lv_ldc (own := RX8) (v := -1000000002) X.1 X.2.1 X.2.2.2.1 (X.2.2.2.2 _ (List.mem_of_getElem? (i := 3) rfl)) dX8_crossed_30 ?_
      exact tw_iret X hr hlk w h dX8_crossed_32
    · have h := h.2 c4
      refine lv_iload_n X.1 X.2.1 dX8_crossed_14 rfl (lv_at hl 2 rfl) ?_
      refine lv_aload_n X.1 X.2.1 dX8_crossed_15 rfl (lv_at hl 0 rfl) ?_
      refine tw_get X hK w 8 iw_X8_crossed_8 h0 (by decide) rfl 6 (by decide) (List.mem_of_getElem? (i := 2) rfl) rfl dX8_crossed_16 ?_
      refine tw_ci w (va_runV (As := []) (rest := [.int x2]) X (ct_X7_length l D g hT _ σ1 (tw_R g a0 6) (tw_t_8_6 hT h0) _ h) (cwV 0 X.2.2.2.2 gX8_crossed_X7_length rfl rfl rfl (by decide +kernel) ⟨Nat.le_of_ble_eq_true rfl, Nat.le_of_ble_eq_true rfl⟩) (tw_preV hK w (tw_t_8_6 hT h0) (by decide) rfl []) rfl rfl hl.1 rfl (lv_room (Nat.le_of_ble_eq_true rfl)) dX8_crossed_19 ⟨Nat.zero_le _, Nat.zero_le _⟩) (fun r6 σ5 H locs h w => ?_)
      refine lv_icmp_gt (tgt := 30) X.1 X.2.1 dX8_crossed_22 (by decide) (fun c7 => ?_) (fun c7 => ?_)
      · have h := h.1 c7
        refine lv_ldc (own := RX8) (v := -1000000002) X.1 X.2.1 X.2.2.2.1 (X.2.2.2.2 _ (List.mem_of_getElem? (i := 3) rfl)) dX8_crossed_30 ?_
        exact tw_iret X hr hlk w h dX8_crossed_32
      · have h := h.2 c7
        refine lv_iload_n X.1 X.2.1 dX8_crossed_25 rfl (lv_at hl 3 rfl) ?_
        refine lv_iconst (v := -1) X.1 X.2.1 dX8_crossed_26 (by decide) ?_
        refine lv_icmp_ge (tgt := 33) X.1 X.2.1 dX8_crossed_27 (by decide) (fun c8 => ?_) (fun c8 => ?_)
        · have h := h.1 c8
          refine lv_aload_n X.1 X.2.1 dX8_crossed_33 rfl (lv_at hl 0 rfl) ?_
          refine tw_get X hK w 8 iw_X8_crossed_8 h0 (by decide) rfl 8 (by decide) (List.mem_of_getElem? (i := 4) rfl) rfl dX8_crossed_34 ?_
          refine lv_aload_n X.1 X.2.1 dX8_crossed_37 rfl (lv_at hl 0 rfl) ?_
          refine tw_get X hK w 8 iw_X8_crossed_8 h0 (by decide) rfl 0 (by decide) (List.mem_of_getElem? (i := 5) rfl) rfl dX8_crossed_38 ?_
          refine lv_iload_n X.1 X.2.1 dX8_crossed_41 rfl (lv_at hl 1 rfl) ?_
          refine tw_cr w (va_runV (As := [.int x1]) (rest := [.ref (tw_R g a0 8)]) X (ct_X0_at l D g hT _ σ5 (tw_R g a0 0) (tw_t_8_0 hT h0) x1 _ h) (cwV 1 X.2.2.2.2 gX8_crossed_X0_at rfl rfl rfl (by decide +kernel) ⟨Nat.le_of_ble_eq_true rfl, Nat.le_of_ble_eq_true rfl⟩) (tw_preV hK w (tw_t_8_0 hT h0) (by decide) rfl [.int x1]) rfl rfl hl.1 rfl (lv_room (Nat.le_of_ble_eq_true rfl)) dX8_crossed_42 ⟨Nat.zero_le _, Nat.zero_le _⟩) (fun y10 σ9 H locs hy10 h w => ?_)
          refine lv_aload_n X.1 X.2.1 dX8_crossed_45 rfl (lv_at hl 0 rfl) ?_
          refine tw_get X hK w 8 iw_X8_crossed_8 h0 (by decide) rfl 6 (by decide) (List.mem_of_getElem? (i := 2) rfl) rfl dX8_crossed_46 ?_
          refine tw_cv w (va_runV (As := [.ref y10, .ref (tw_R g a0 6)]) (rest := []) X (ct_X1_follow l D g hT _ σ9 (tw_R g a0 8) (tw_t_8_8 hT h0) y10 hy10 (tw_R g a0 6) (tw_t_8_6 hT h0) _ h) (cwV 2 X.2.2.2.2 gX8_crossed_X1_follow rfl rfl rfl (by decide +kernel) ⟨Nat.le_of_ble_eq_true rfl, Nat.le_of_ble_eq_true rfl⟩) (tw_preV hK w (tw_t_8_8 hT h0) (by decide) rfl [.ref y10, .ref (tw_R g a0 6)]) rfl rfl hl.1 rfl (lv_room (Nat.le_of_ble_eq_true rfl)) dX8_crossed_49 ⟨Nat.zero_le _, Nat.zero_le _⟩) (fun σ11 H locs h w => ?_)
          refine lv_iload_n X.1 X.2.1 dX8_crossed_52 rfl (lv_at hl 3 rfl) ?_
          refine lv_iconst (v := -1) X.1 X.2.1 dX8_crossed_53 (by decide) ?_
          refine lv_icmp_ne (tgt := 68) X.1 X.2.1 dX8_crossed_54 (by decide) (fun c12 => ?_) (fun c12 => ?_)
          · have h := h.1 c12
            refine lv_aload_n X.1 X.2.1 dX8_crossed_68 rfl (lv_at hl 0 rfl) ?_
            refine tw_get X hK w 8 iw_X8_crossed_8 h0 (by decide) rfl 8 (by decide) (List.mem_of_getElem? (i := 4) rfl) rfl dX8_crossed_69 ?_
            refine lv_iload_n X.1 X.2.1 dX8_crossed_72 rfl (lv_at hl 2 rfl) ?_
            refine lv_iload_n X.1 X.2.1 dX8_crossed_73 rfl (lv_at hl 3 rfl) ?_
            refine tw_ci w (va_runV (As := [.int x2, .int x3]) (rest := []) X (ct_X1_stateAt l D g hT _ σ11 (tw_R g a0 8) (tw_t_8_8 hT h0) x2 x3 _ h) (cwV 2 X.2.2.2.2 gX8_crossed_X1_stateAt rfl rfl rfl (by decide +kernel) ⟨Nat.le_of_ble_eq_true rfl, Nat.le_of_ble_eq_true rfl⟩) (tw_preV hK w (tw_t_8_8 hT h0) (by decide) rfl [.int x2, .int x3]) rfl rfl hl.1 rfl (lv_room (Nat.le_of_ble_eq_true rfl)) dX8_crossed_74 ⟨Nat.zero_le _, Nat.zero_le _⟩) (fun r14 σ13 H locs h w => ?_)
            exact tw_iret X hr hlk w h dX8_crossed_77
          · have h := h.2 c12
            refine lv_aload_n X.1 X.2.1 dX8_crossed_57 rfl (lv_at hl 0 rfl) ?_
            refine tw_get X hK w 8 iw_X8_crossed_8 h0 (by decide) rfl 8 (by decide) (List.mem_of_getElem? (i := 4) rfl) rfl dX8_crossed_58 ?_
            refine lv_iload_n X.1 X.2.1 dX8_crossed_61 rfl (lv_at hl 2 rfl) ?_
            refine tw_ci w (va_runV (As := [.int x2]) (rest := []) X (ct_X1_howOften l D g hT _ σ11 (tw_R g a0 8) (tw_t_8_8 hT h0) x2 _ h) (cwV 1 X.2.2.2.2 gX8_crossed_X1_howOften rfl rfl rfl (by decide +kernel) ⟨Nat.le_of_ble_eq_true rfl, Nat.le_of_ble_eq_true rfl⟩) (tw_preV hK w (tw_t_8_8 hT h0) (by decide) rfl [.int x2]) rfl rfl hl.1 rfl (lv_room (Nat.le_of_ble_eq_true rfl)) dX8_crossed_62 ⟨Nat.zero_le _, Nat.zero_le _⟩) (fun r16 σ15 H locs h w => ?_)
            refine lv_goto (tgt := 77) X.1 X.2.1 dX8_crossed_65 (by decide) ?_
            exact tw_iret X hr hlk w h dX8_crossed_77
        · have h := h.2 c8
          refine lv_ldc (own := RX8) (v := -1000000002) X.1 X.2.1 X.2.2.2.1 (X.2.2.2.2 _ (List.mem_of_getElem? (i := 3) rfl)) dX8_crossed_30 ?_
          exact tw_iret X hr hlk w h dX8_crossed_32
  · have h := h.2 c3
    refine lv_ldc (own := RX8) (v := -1000000001) X.1 X.2.1 X.2.2.2.1 (X.2.2.2.2 _ (List.mem_of_getElem? (i := 1) rfl)) dX8_crossed_7 ?_
    exact tw_iret X hr hlk w h dX8_crossed_9

abbrev RM_X8_isPiece : Room := { frames := 1, cells := 0, slots := 0, locals := 20 }
theorem iw_X8_isPiece_8 : ∀ w ∈ wsX80, w ∈ wsX8_isPiece := fun w h => List.mem_cons_of_mem _ (List.mem_append_left _ (List.mem_append_right _ (h)))
def wp_X8_isPiece (g : tw_G) (σ : tw_S) (a0 : Nat) (x1 : Int32) (x2 : Int32) (Q : Int32 → tw_S → Prop) : Prop := ((x1 < 0) → Q (0 : Int32) σ) ∧ (¬ (x1 < 0) → ((x2 ≤ x1) → Q (0 : Int32) σ) ∧ (¬ (x2 ≤ x1) → wp_X7_length g σ (tw_R g a0 6) (fun r4 σ3 => ((r4 < x2) → Q (0 : Int32) σ3) ∧ (¬ (r4 < x2) → Q (1 : Int32) σ3))))
set_option maxHeartbeats 4000000 in
set_option maxRecDepth 100000 in
theorem ct_X8_isPiece (l : Launch) (D : va_G) (g : tw_G) (hT : tw_T g) (sz : Nat) (σ : tw_S) (a0 : Nat) (h0 : tw_is g 8 a0) (x1 : Int32) (x2 : Int32) (Q : Int32 → tw_S → Prop) (h : wp_X8_isPiece g σ a0 x1 x2 Q) : tw_Mi l yX8_isPiece wsX8_isPiece RM_X8_isPiece D g sz σ [.ref a0, .int x1, .int x2] Q := by
  refine Met.ofW (cc := cX8_isPiece) (maxL := 3) (ret := (some .boolean)) (by decide) rfl ?_
  intro p e s m args below meth c s₁ B hml hv
  obtain ⟨rfl, hsz, hP, hK, hD0⟩ := hv
  subst hsz
  have hr := B.returns
  have hlk := B.notSynchronized
  have X : CallFix p m c cX8_isPiece 3 s _ wsX8_isPiece RX8 := ⟨B.exec, B.bytes, hml, findClass_of_methodNamed B.named, atoms_spec (ws := wsX8_isPiece) B.pre⟩
  have w := tw_w0 hP hD0
  have hl := lv_entry ([.ref a0, .int x1, .int x2]) (n := 3) (Nat.le_of_ble_eq_true rfl)
  rw [lg_entry_eq]
  generalize (lg_sl ([.ref a0, .int x1, .int x2]) ++ List.replicate (3 - (lg_sl ([.ref a0, .int x1, .int x2])).length) Slot.unset).toArray = ls at hl ⊢
  have hl : lv_has ls 3 [(0, .ref a0), (1, .int x1), (2, .int x2)] := hl
  unfold wp_X8_isPiece at h
  refine lv_iload_n X.1 X.2.1 dX8_isPiece_0 rfl (lv_at hl 1 rfl) ?_
  refine lv_if_lt (tgt := 24) X.1 X.2.1 dX8_isPiece_1 (by decide) (fun c1 => ?_) (fun c1 => ?_)
  · have h := h.1 c1
    refine lv_iconst (v := 0) X.1 X.2.1 dX8_isPiece_24 (by decide) ?_
    exact tw_zret X hr hlk w (by decide) h dX8_isPiece_25
  · have h := h.2 c1
    refine lv_iload_n X.1 X.2.1 dX8_isPiece_4 rfl (lv_at hl 1 rfl) ?_
    refine lv_iload_n X.1 X.2.1 dX8_isPiece_5 rfl (lv_at hl 2 rfl) ?_
    refine lv_icmp_ge (tgt := 24) X.1 X.2.1 dX8_isPiece_6 (by decide) (fun c2 => ?_) (fun c2 => ?_)
    · have h := h.1 c2
      refine lv_iconst (v := 0) X.1 X.2.1 dX8_isPiece_24 (by decide) ?_
      exact tw_zret X hr hlk w (by decide) h dX8_isPiece_25
    · have h := h.2 c2
      refine lv_iload_n X.1 X.2.1 dX8_isPiece_9 rfl (lv_at hl 2 rfl) ?_
      refine lv_aload_n X.1 X.2.1 dX8_isPiece_10 rfl (lv_at hl 0 rfl) ?_
      refine tw_get X hK w 8 iw_X8_isPiece_8 h0 (by decide) rfl 6 (by decide) (List.mem_of_getElem? (i := 1) rfl) rfl dX8_isPiece_11 ?_
      refine tw_ci w (va_runV (As := []) (rest := [.int x2]) X (ct_X7_length l D g hT _ σ (tw_R g a0 6) (tw_t_8_6 hT h0) _ h) (cwV 0 X.2.2.2.2 gX8_isPiece_X7_length rfl rfl rfl (by decide +kernel) ⟨Nat.le_of_ble_eq_true rfl, Nat.le_of_ble_eq_true rfl⟩) (tw_preV hK w (tw_t_8_6 hT h0) (by decide) rfl []) rfl rfl hl.1 rfl (lv_room (Nat.le_of_ble_eq_true rfl)) dX8_isPiece_14 ⟨Nat.zero_le _, Nat.zero_le _⟩) (fun r4 σ3 H locs h w => ?_)
      refine lv_icmp_gt (tgt := 24) X.1 X.2.1 dX8_isPiece_17 (by decide) (fun c5 => ?_) (fun c5 => ?_)
      · have h := h.1 c5
        refine lv_iconst (v := 0) X.1 X.2.1 dX8_isPiece_24 (by decide) ?_
        exact tw_zret X hr hlk w (by decide) h dX8_isPiece_25
      · have h := h.2 c5
        refine lv_iconst (v := 1) X.1 X.2.1 dX8_isPiece_20 (by decide) ?_
        refine lv_goto (tgt := 25) X.1 X.2.1 dX8_isPiece_21 (by decide) ?_
        exact tw_zret X hr hlk w (by decide) h dX8_isPiece_25

abbrev RM_X8_goOffPiece : Room := { frames := 2, cells := 0, slots := 0, locals := 42 }
theorem iw_X8_goOffPiece_8 : ∀ w ∈ wsX80, w ∈ wsX8_goOffPiece := fun w h => List.mem_cons_of_mem _ (List.mem_append_left _ (List.mem_append_left _ (List.mem_append_right _ (h))))
def wl_X8_goOffPiece_21 (g : tw_G) (a0 : Nat) (a1 : Nat) (x2 : Int32) (x3 : Int32) (Q : Int32 → tw_S → Prop) (k51 : tw_S → Prop) (k82 : Int32 → tw_S → Prop) (k91 : tw_S → Prop) : Nat → Int32 → Int32 → Int32 → tw_S → Prop
  | 0, _, _, _, _ => False
  | n + 1, x6, x7, x8, σ => (((96 : Int32) ≤ x8) → k91  σ) ∧ (¬ ((96 : Int32) ≤ x8) → wp_X7_letterAt g σ (tw_R g a0 6) x7 (fun r4 σ3 => wp_X3_at g σ3 a1 x6 r4 (fun r6 σ5 => ((¬ r6 = (-1 : Int32)) → wp_X8_stateOf g σ5 r6 (fun r9 σ8 => wp_X8_shift g σ8 r6 (fun r11 σ10 => (((x7 + r11) < x2) → k82 r6 σ10) ∧ (¬ ((x7 + r11) < x2) → (((x7 + r11) < x3) → wl_X8_goOffPiece_21 g a0 a1 x2 x3 Q k51 k82 k91 n r9 (x7 + r11) (x8 + 1) σ10) ∧ (¬ ((x7 + r11) < x3) → k82 r6 σ10))))) ∧ ((r6 = (-1 : Int32)) → k51  σ5))))
def wp_X8_goOffPiece (g : tw_G) (σ : tw_S) (a0 : Nat) (a1 : Nat) (x2 : Int32) (x3 : Int32) (x4 : Int32) (x5 : Int32) (Q : Int32 → tw_S → Prop) : Prop := ((¬ x5 = 0) → ∃ n21, wl_X8_goOffPiece_21 g a0 a1 x2 x3 Q (fun σ14 => Q (-1 : Int32) σ14) (fun v15 σ16 => Q v15 σ16) (fun σ17 => Q (-1 : Int32) σ17) n21 x4 (x3 - (1 : Int32)) (0 : Int32) σ) ∧ ((x5 = 0) → ∃ n21, wl_X8_goOffPiece_21 g a0 a1 x2 x3 Q (fun σ18 => Q (-1 : Int32) σ18) (fun v19 σ20 => Q v19 σ20) (fun σ21 => Q (-1 : Int32) σ21) n21 x4 x2 (0 : Int32) σ)
set_option maxHeartbeats 4000000 in
set_option maxRecDepth 100000 in
theorem lp_X8_goOffPiece_21 {p : Program} {l : Launch} {e : Env} {s : State} {m : MethodId} {args : Array Value} {below : List Frame} {meth : Method} {c : Code} {D : va_G} {g : tw_G} (X : CallFix p m c cX8_goOffPiece 10 s args wsX8_goOffPiece RX8) (hr : meth.sig.returnType = (some .int)) (hlk : meth.locks = false) (hK : tw_k D g s) (hT : tw_T g) {a0 : Nat} {a1 : Nat} {x2 : Int32} {x3 : Int32} (h0 : tw_is g 8 a0) (h1 : tw_is g 3 a1) {Q : Int32 → tw_S → Prop} {k51 : tw_S → Prop} {k82 : Int32 → tw_S → Prop} {k91 : tw_S → Prop}
    (hk51 : ∀  (σ : tw_S) (H : Heap) (locs : List Loc) (ls : Array Slot), k51  σ → tw_w D g (tw_F g s.heap.size) s σ H locs → lv_has ls 10 [] → W p l e RM_X8_goOffPiece s m args below meth c H locs 0 0 (tw_Qi Q D g below args s) (F0 m 51 ls []))
    (hk82 : ∀ (x9 : Int32) (σ : tw_S) (H : Heap) (locs : List Loc) (ls : Array Slot), k82 x9 σ → tw_w D g (tw_F g s.heap.size) s σ H locs → lv_has ls 10 [(9, .int x9)] → W p l e RM_X8_goOffPiece s m args below meth c H locs 0 0 (tw_Qi Q D g below args s) (F0 m 82 ls []))
    (hk91 : ∀  (σ : tw_S) (H : Heap) (locs : List Loc) (ls : Array Slot), k91  σ → tw_w D g (tw_F g s.heap.size) s σ H locs → lv_has ls 10 [] → W p l e RM_X8_goOffPiece s m args below meth c H locs 0 0 (tw_Qi Q D g below args s) (F0 m 91 ls []))
    : ∀ (n : Nat) (x6 : Int32) (x7 : Int32) (x8 : Int32) (σ : tw_S) (H : Heap) (locs : List Loc) (ls : Array Slot), wl_X8_goOffPiece_21 g a0 a1 x2 x3 Q k51 k82 k91 n x6 x7 x8 σ → tw_w D g (tw_F g s.heap.size) s σ H locs → lv_has ls 10 [(0, .ref a0), (1, .ref a1), (2, .int x2), (3, .int x3), (6, .int x6), (7, .int x7), (8, .int x8)] → W p l e RM_X8_goOffPiece s m args below meth c H locs 0 0 (tw_Qi Q D g below args s) (F0 m 21 ls []) := by
  intro n
  induction n with
  | zero =>
    intro x6 x7 x8 σ H locs ls h w hl
    exact False.elim h
  | succ n ih =>
    intro x6 x7 x8 σ H locs ls h w hl
    rw [wl_X8_goOffPiece_21] at h
    refine lv_iload X.1 X.2.1 dX8_goOffPiece_21 (lv_at hl 6 rfl) ?_
    refine lv_bipush (v := 96) X.1 X.2.1 dX8_goOffPiece_23 (by decide) ?_
    refine lv_icmp_ge (tgt := 91) X.1 X.2.1 dX8_goOffPiece_25 (by decide) (fun c2 => ?_) (fun c2 => ?_)
    · have h := h.1 c2
      exact hk91  σ _ _ ls h w (lv_sub hl [] rfl)
    · have h := h.2 c2
      refine lv_aload_n X.1 X.2.1 dX8_goOffPiece_28 rfl (lv_at hl 1 rfl) ?_
      refine lv_iload X.1 X.2.1 dX8_goOffPiece_29 (lv_at hl 4 rfl) ?_
      refine lv_aload_n X.1 X.2.1 dX8_goOffPiece_31 rfl (lv_at hl 0 rfl) ?_
      refine tw_get X hK w 8 iw_X8_goOffPiece_8 h0 (by decide) rfl 6 (by decide) (List.mem_of_getElem? (i := 1) rfl) rfl dX8_goOffPiece_32 ?_
      refine lv_iload X.1 X.2.1 dX8_goOffPiece_35 (lv_at hl 5 rfl) ?_
      refine tw_ci w (va_runV (As := [.int x7]) (rest := [.int x6, .ref a1]) X (ct_X7_letterAt l D g hT _ σ (tw_R g a0 6) (tw_t_8_6 hT h0) x7 _ h) (cwV 1 X.2.2.2.2 gX8_goOffPiece_X7_letterAt rfl rfl rfl (by decide +kernel) ⟨Nat.le_of_ble_eq_true rfl, Nat.le_of_ble_eq_true rfl⟩) (tw_preV hK w (tw_t_8_6 hT h0) (by decide) rfl [.int x7]) rfl rfl hl.1 rfl (lv_room (Nat.le_of_ble_eq_true rfl)) dX8_goOffPiece_37 ⟨Nat.zero_le _, Nat.zero_le _⟩) (fun r4 σ3 H locs h w => ?_)
      refine tw_ci w (va_runV (As := [.int x6, .int r4]) (rest := []) X (ct_X3_at l D g hT _ σ3 a1 h1 x6 r4 _ h) (cwV 2 X.2.2.2.2 gX8_goOffPiece_X3_at rfl rfl rfl (by decide +kernel) ⟨Nat.le_of_ble_eq_true rfl, Nat.le_of_ble_eq_true rfl⟩) (tw_preV hK w h1 (by decide) rfl [.int x6, .int r4]) rfl rfl hl.1 rfl (lv_room (Nat.le_of_ble_eq_true rfl)) dX8_goOffPiece_40 ⟨Nat.zero_le _, Nat.zero_le _⟩) (fun r6 σ5 H locs h w => ?_)
      refine lv_istore (lv' := [(9, .int r6), (0, .ref a0), (1, .ref a1), (2, .int x2), (3, .int x3), (6, .int x6), (7, .int x7), (8, .int x8)]) X.1 X.2.1 dX8_goOffPiece_43 hl (by decide) rfl (fun ls hl => ?_)
      have hl := lv_sub (l' := [(9, .int r6), (0, .ref a0), (1, .ref a1), (2, .int x2), (3, .int x3), (7, .int x7), (8, .int x8)]) hl [0, 1, 2, 3, 4, 6, 7] rfl
      refine lv_iload X.1 X.2.1 dX8_goOffPiece_45 (lv_at hl 0 rfl) ?_
      refine lv_iconst (v := -1) X.1 X.2.1 dX8_goOffPiece_47 (by decide) ?_
      refine lv_icmp_ne (tgt := 53) X.1 X.2.1 dX8_goOffPiece_48 (by decide) (fun c7 => ?_) (fun c7 => ?_)
      · have h := h.1 c7
        refine lv_iload X.1 X.2.1 dX8_goOffPiece_53 (lv_at hl 0 rfl) ?_
        refine tw_ci w (va_runS (As := [.int r6]) (rest := []) X (ct_X8_stateOf l D g hT _ σ5 r6 _ h) (va_cwS 1 X.2.2.2.2 gX8_goOffPiece_X8_stateOf rfl rfl rfl (by decide +kernel) ⟨Nat.le_of_ble_eq_true rfl, Nat.le_of_ble_eq_true rfl⟩) (tw_pre hK w [.int r6]) rfl rfl hl.1 rfl (lv_room (Nat.le_of_ble_eq_true rfl)) dX8_goOffPiece_55 ⟨Nat.zero_le _, Nat.zero_le _⟩) (fun r9 σ8 H locs h w => ?_)
        refine lv_istore (lv' := [(6, .int r9), (9, .int r6), (0, .ref a0), (1, .ref a1), (2, .int x2), (3, .int x3), (7, .int x7), (8, .int x8)]) X.1 X.2.1 dX8_goOffPiece_58 hl (by decide) rfl (fun ls hl => ?_)
        refine lv_iload X.1 X.2.1 dX8_goOffPiece_60 (lv_at hl 6 rfl) ?_
        refine lv_iload X.1 X.2.1 dX8_goOffPiece_62 (lv_at hl 1 rfl) ?_
        refine tw_ci w (va_runS (As := [.int r6]) (rest := [.int x7]) X (ct_X8_shift l D g hT _ σ8 r6 _ h) (va_cwS 1 X.2.2.2.2 gX8_goOffPiece_X8_shift rfl rfl rfl (by decide +kernel) ⟨Nat.le_of_ble_eq_true rfl, Nat.le_of_ble_eq_true rfl⟩) (tw_pre hK w [.int r6]) rfl rfl hl.1 rfl (lv_room (Nat.le_of_ble_eq_true rfl)) dX8_goOffPiece_64 ⟨Nat.zero_le _, Nat.zero_le _⟩) (fun r11 σ10 H locs h w => ?_)
        refine lv_iadd X.1 X.2.1 dX8_goOffPiece_67 ?_
        refine lv_istore (lv' := [(7, .int (x7 + r11)), (6, .int r9), (9, .int r6), (0, .ref a0), (1, .ref a1), (2, .int x2), (3, .int x3), (8, .int x8)]) X.1 X.2.1 dX8_goOffPiece_68 hl (by decide) rfl (fun ls hl => ?_)
        refine lv_iload X.1 X.2.1 dX8_goOffPiece_70 (lv_at hl 0 rfl) ?_
        refine lv_iload_n X.1 X.2.1 dX8_goOffPiece_72 rfl (lv_at hl 5 rfl) ?_
        refine lv_icmp_lt (tgt := 82) X.1 X.2.1 dX8_goOffPiece_73 (by decide) (fun c12 => ?_) (fun c12 => ?_)
        · have h := h.1 c12
          exact hk82 r6 σ10 _ _ ls h w (lv_sub hl [2] rfl)
        · have h := h.2 c12
          refine lv_iload X.1 X.2.1 dX8_goOffPiece_76 (lv_at hl 0 rfl) ?_
          refine lv_iload_n X.1 X.2.1 dX8_goOffPiece_78 rfl (lv_at hl 6 rfl) ?_
          refine lv_icmp_lt (tgt := 85) X.1 X.2.1 dX8_goOffPiece_79 (by decide) (fun c13 => ?_) (fun c13 => ?_)
          · have h := h.1 c13
            refine lv_iinc (v := (x8 + 1)) (lv' := [(8, .int (x8 + 1)), (7, .int (x7 + r11)), (6, .int r9), (9, .int r6), (0, .ref a0), (1, .ref a1), (2, .int x2), (3, .int x3)]) X.1 X.2.1 dX8_goOffPiece_85 hl (k := 7) rfl rfl (by decide) rfl (fun ls hl => ?_)
            refine lv_goto (tgt := 21) X.1 X.2.1 dX8_goOffPiece_88 (by decide) ?_
            exact ih r9 (x7 + r11) (x8 + 1) σ10 _ _ ls h w (lv_sub hl [4, 5, 6, 7, 2, 1, 0] rfl)
          · have h := h.2 c13
            exact hk82 r6 σ10 _ _ ls h w (lv_sub hl [2] rfl)
      · have h := h.2 c7
        exact hk51  σ5 _ _ ls h w (lv_sub hl [] rfl)
set_option maxHeartbeats 4000000 in
set_option maxRecDepth 100000 in
theorem ct_X8_goOffPiece (l : Launch) (D : va_G) (g : tw_G) (hT : tw_T g) (sz : Nat) (σ : tw_S) (a0 : Nat) (h0 : tw_is g 8 a0) (a1 : Nat) (h1 : tw_is g 3 a1) (x2 : Int32) (x3 : Int32) (x4 : Int32) (x5 : Int32) (Q : Int32 → tw_S → Prop) (h : wp_X8_goOffPiece g σ a0 a1 x2 x3 x4 x5 Q) : tw_Mi l yX8_goOffPiece wsX8_goOffPiece RM_X8_goOffPiece D g sz σ [.ref a0, .ref a1, .int x2, .int x3, .int x4, .int x5] Q := by
  refine Met.ofW (cc := cX8_goOffPiece) (maxL := 10) (ret := (some .int)) (by decide) rfl ?_
  intro p e s m args below meth c s₁ B hml hv
  obtain ⟨rfl, hsz, hP, hK, hD0⟩ := hv
  subst hsz
  have hr := B.returns
  have hlk := B.notSynchronized
  have X : CallFix p m c cX8_goOffPiece 10 s _ wsX8_goOffPiece RX8 := ⟨B.exec, B.bytes, hml, findClass_of_methodNamed B.named, atoms_spec (ws := wsX8_goOffPiece) B.pre⟩
  have w := tw_w0 hP hD0
  have hl := lv_entry ([.ref a0, .ref a1, .int x2, .int x3, .int x4, .int x5]) (n := 10) (Nat.le_of_ble_eq_true rfl)
  rw [lg_entry_eq]
  generalize (lg_sl ([.ref a0, .ref a1, .int x2, .int x3, .int x4, .int x5]) ++ List.replicate (10 - (lg_sl ([.ref a0, .ref a1, .int x2, .int x3, .int x4, .int x5])).length) Slot.unset).toArray = ls at hl ⊢
  have hl : lv_has ls 10 [(0, .ref a0), (1, .ref a1), (2, .int x2), (3, .int x3), (4, .int x4), (5, .int x5)] := hl
  unfold wp_X8_goOffPiece at h
  refine lv_iload X.1 X.2.1 dX8_goOffPiece_0 (lv_at hl 4 rfl) ?_
  refine lv_istore (lv' := [(6, .int x4), (0, .ref a0), (1, .ref a1), (2, .int x2), (3, .int x3), (4, .int x4), (5, .int x5)]) X.1 X.2.1 dX8_goOffPiece_2 hl (by decide) rfl (fun ls hl => ?_)
  have hl := lv_sub (l' := [(6, .int x4), (0, .ref a0), (1, .ref a1), (2, .int x2), (3, .int x3), (5, .int x5)]) hl [0, 1, 2, 3, 4, 6] rfl
  refine lv_iload X.1 X.2.1 dX8_goOffPiece_4 (lv_at hl 5 rfl) ?_
  refine lv_if_ne (tgt := 13) X.1 X.2.1 dX8_goOffPiece_6 (by decide) (fun c1 => ?_) (fun c1 => ?_)
  · have h := h.1 c1
    refine lv_iload_n X.1 X.2.1 dX8_goOffPiece_13 rfl (lv_at hl 4 rfl) ?_
    refine lv_iconst (v := 1) X.1 X.2.1 dX8_goOffPiece_14 (by decide) ?_
    refine lv_isub X.1 X.2.1 dX8_goOffPiece_15 ?_
    refine lv_istore (lv' := [(7, .int (x3 - (1 : Int32))), (6, .int x4), (0, .ref a0), (1, .ref a1), (2, .int x2), (3, .int x3), (5, .int x5)]) X.1 X.2.1 dX8_goOffPiece_16 hl (by decide) rfl (fun ls hl => ?_)
    have hl := lv_sub (l' := [(7, .int (x3 - (1 : Int32))), (6, .int x4), (0, .ref a0), (1, .ref a1), (2, .int x2), (3, .int x3)]) hl [0, 1, 2, 3, 4, 5] rfl
    refine lv_iconst (v := 0) X.1 X.2.1 dX8_goOffPiece_18 (by decide) ?_
    refine lv_istore (lv' := [(8, .int (0 : Int32)), (7, .int (x3 - (1 : Int32))), (6, .int x4), (0, .ref a0), (1, .ref a1), (2, .int x2), (3, .int x3)]) X.1 X.2.1 dX8_goOffPiece_19 hl (by decide) rfl (fun ls hl => ?_)
    obtain ⟨n21, h⟩ := h
    refine lp_X8_goOffPiece_21 X hr hlk hK hT h0 h1 (fun σ14 H locs ls h w hl => ?_) (fun v15 σ16 H locs ls h w hl => ?_) (fun σ17 H locs ls h w hl => ?_) n21 x4 (x3 - (1 : Int32)) (0 : Int32) σ _ _ ls h w (lv_sub hl [3, 4, 5, 6, 2, 1, 0] rfl)
    · skip
      refine lv_iconst (v := -1) X.1 X.2.1 dX8_goOffPiece_51 (by decide) ?_
      exact tw_iret X hr hlk w h dX8_goOffPiece_52
    · skip
      refine lv_iload X.1 X.2.1 dX8_goOffPiece_82 (lv_at hl 0 rfl) ?_
      exact tw_iret X hr hlk w h dX8_goOffPiece_84
    · skip
      refine lv_iconst (v := -1) X.1 X.2.1 dX8_goOffPiece_91 (by decide) ?_
      exact tw_iret X hr hlk w h dX8_goOffPiece_92
  · have h := h.2 c1
    refine lv_iload_n X.1 X.2.1 dX8_goOffPiece_9 rfl (lv_at hl 3 rfl) ?_
    refine lv_goto (tgt := 16) X.1 X.2.1 dX8_goOffPiece_10 (by decide) ?_
    refine lv_istore (lv' := [(7, .int x2), (6, .int x4), (0, .ref a0), (1, .ref a1), (2, .int x2), (3, .int x3), (5, .int x5)]) X.1 X.2.1 dX8_goOffPiece_16 hl (by decide) rfl (fun ls hl => ?_)
    have hl := lv_sub (l' := [(7, .int x2), (6, .int x4), (0, .ref a0), (1, .ref a1), (2, .int x2), (3, .int x3)]) hl [0, 1, 2, 3, 4, 5] rfl
    refine lv_iconst (v := 0) X.1 X.2.1 dX8_goOffPiece_18 (by decide) ?_
    refine lv_istore (lv' := [(8, .int (0 : Int32)), (7, .int x2), (6, .int x4), (0, .ref a0), (1, .ref a1), (2, .int x2), (3, .int x3)]) X.1 X.2.1 dX8_goOffPiece_19 hl (by decide) rfl (fun ls hl => ?_)
    obtain ⟨n21, h⟩ := h
    refine lp_X8_goOffPiece_21 X hr hlk hK hT h0 h1 (fun σ18 H locs ls h w hl => ?_) (fun v19 σ20 H locs ls h w hl => ?_) (fun σ21 H locs ls h w hl => ?_) n21 x4 x2 (0 : Int32) σ _ _ ls h w (lv_sub hl [3, 4, 5, 6, 2, 1, 0] rfl)
    · skip
      refine lv_iconst (v := -1) X.1 X.2.1 dX8_goOffPiece_51 (by decide) ?_
      exact tw_iret X hr hlk w h dX8_goOffPiece_52
    · skip
      refine lv_iload X.1 X.2.1 dX8_goOffPiece_82 (lv_at hl 0 rfl) ?_
      exact tw_iret X hr hlk w h dX8_goOffPiece_84
    · skip
      refine lv_iconst (v := -1) X.1 X.2.1 dX8_goOffPiece_91 (by decide) ?_
      exact tw_iret X hr hlk w h dX8_goOffPiece_92

abbrev RM_X8_table : Room := { frames := 3, cells := 0, slots := 0, locals := 71 }
theorem iw_X8_table_8 : ∀ w ∈ wsX80, w ∈ wsX8_table := fun w h => List.mem_cons_of_mem _ (List.mem_append_left _ (List.mem_append_left _ (List.mem_append_left _ (List.mem_append_right _ (h)))))
def wp_X8_table (g : tw_G) (σ : tw_S) (a0 : Nat) (x1 : Int32) (x2 : Int32) (x3 : Int32) (x4 : Int32) (x5 : Int32) (Q : Int32 → tw_S → Prop) : Prop := wp_X8_isMachine g σ x1 (fun r2 σ1 => ((r2 = 0) → Q (-1000000001 : Int32) σ1) ∧ (¬ (r2 = 0) → wp_X0_at g σ1 (tw_R g a0 0) x1 (fun y5 σ4 => wp_X3_hasState g σ4 y5 x4 (fun r7 σ6 => ((¬ r7 = 0) → wp_X8_isSide g σ6 x5 (fun r10 σ9 => ((r10 = 0) → Q (-1000000002 : Int32) σ9) ∧ (¬ (r10 = 0) → wp_X8_isPiece g σ9 a0 x2 x3 (fun r13 σ12 => ((¬ r13 = 0) → wp_X0_at g σ12 (tw_R g a0 0) x1 (fun y16 σ15 => wp_X8_goOffPiece g σ15 a0 y16 x2 x3 x4 x5 (fun r18 σ17 => Q r18 σ17))) ∧ ((r13 = 0) → Q (-1000000002 : Int32) σ12))))) ∧ ((r7 = 0) → Q (-1000000001 : Int32) σ6)))))
set_option maxHeartbeats 4000000 in
set_option maxRecDepth 100000 in
theorem ct_X8_table (l : Launch) (D : va_G) (g : tw_G) (hT : tw_T g) (sz : Nat) (σ : tw_S) (a0 : Nat) (h0 : tw_is g 8 a0) (x1 : Int32) (x2 : Int32) (x3 : Int32) (x4 : Int32) (x5 : Int32) (Q : Int32 → tw_S → Prop) (h : wp_X8_table g σ a0 x1 x2 x3 x4 x5 Q) : tw_Mi l yX8_table wsX8_table RM_X8_table D g sz σ [.ref a0, .int x1, .int x2, .int x3, .int x4, .int x5] Q := by
  refine Met.ofW (cc := cX8_table) (maxL := 6) (ret := (some .int)) (by decide) rfl ?_
  intro p e s m args below meth c s₁ B hml hv
  obtain ⟨rfl, hsz, hP, hK, hD0⟩ := hv
  subst hsz
  have hr := B.returns
  have hlk := B.notSynchronized
  have X : CallFix p m c cX8_table 6 s _ wsX8_table RX8 := ⟨B.exec, B.bytes, hml, findClass_of_methodNamed B.named, atoms_spec (ws := wsX8_table) B.pre⟩
  have w := tw_w0 hP hD0
  have hl := lv_entry ([.ref a0, .int x1, .int x2, .int x3, .int x4, .int x5]) (n := 6) (Nat.le_of_ble_eq_true rfl)
  rw [lg_entry_eq]
  generalize (lg_sl ([.ref a0, .int x1, .int x2, .int x3, .int x4, .int x5]) ++ List.replicate (6 - (lg_sl ([.ref a0, .int x1, .int x2, .int x3, .int x4, .int x5])).length) Slot.unset).toArray = ls at hl ⊢
  have hl : lv_has ls 6 [(0, .ref a0), (1, .int x1), (2, .int x2), (3, .int x3), (4, .int x4), (5, .int x5)] := hl
  unfold wp_X8_table at h
  refine lv_iload_n X.1 X.2.1 dX8_table_0 rfl (lv_at hl 1 rfl) ?_
  refine tw_ci w (va_runS (As := [.int x1]) (rest := []) X (ct_X8_isMachine l D g hT _ σ x1 _ h) (va_cwS 1 X.2.2.2.2 gX8_table_X8_isMachine rfl rfl rfl (by decide +kernel) ⟨Nat.le_of_ble_eq_true rfl, Nat.le_of_ble_eq_true rfl⟩) (tw_pre hK w [.int x1]) rfl rfl hl.1 rfl (lv_room (Nat.le_of_ble_eq_true rfl)) dX8_table_1 ⟨Nat.zero_le _, Nat.zero_le _⟩) (fun r2 σ1 H locs h w => ?_)
  refine lv_if_eq (tgt := 23) X.1 X.2.1 dX8_table_4 (by decide) (fun c3 => ?_) (fun c3 => ?_)
  · have h := h.1 c3
    refine lv_ldc (own := RX8) (v := -1000000001) X.1 X.2.1 X.2.2.2.1 (X.2.2.2.2 _ (List.mem_of_getElem? (i := 2) rfl)) dX8_table_23 ?_
    exact tw_iret X hr hlk w h dX8_table_25
  · have h := h.2 c3
    refine lv_aload_n X.1 X.2.1 dX8_table_7 rfl (lv_at hl 0 rfl) ?_
    refine tw_get X hK w 8 iw_X8_table_8 h0 (by decide) rfl 0 (by decide) (List.mem_of_getElem? (i := 1) rfl) rfl dX8_table_8 ?_
    refine lv_iload_n X.1 X.2.1 dX8_table_11 rfl (lv_at hl 1 rfl) ?_
    refine tw_cr w (va_runV (As := [.int x1]) (rest := []) X (ct_X0_at l D g hT _ σ1 (tw_R g a0 0) (tw_t_8_0 hT h0) x1 _ h) (cwV 1 X.2.2.2.2 gX8_table_X0_at rfl rfl rfl (by decide +kernel) ⟨Nat.le_of_ble_eq_true rfl, Nat.le_of_ble_eq_true rfl⟩) (tw_preV hK w (tw_t_8_0 hT h0) (by decide) rfl [.int x1]) rfl rfl hl.1 rfl (lv_room (Nat.le_of_ble_eq_true rfl)) dX8_table_12 ⟨Nat.zero_le _, Nat.zero_le _⟩) (fun y5 σ4 H locs hy5 h w => ?_)
    refine lv_iload X.1 X.2.1 dX8_table_15 (lv_at hl 4 rfl) ?_
    refine tw_ci w (va_runV (As := [.int x4]) (rest := []) X (ct_X3_hasState l D g hT _ σ4 y5 hy5 x4 _ h) (cwV 1 X.2.2.2.2 gX8_table_X3_hasState rfl rfl rfl (by decide +kernel) ⟨Nat.le_of_ble_eq_true rfl, Nat.le_of_ble_eq_true rfl⟩) (tw_preV hK w hy5 (by decide) rfl [.int x4]) rfl rfl hl.1 rfl (lv_room (Nat.le_of_ble_eq_true rfl)) dX8_table_17 ⟨Nat.zero_le _, Nat.zero_le _⟩) (fun r7 σ6 H locs h w => ?_)
    refine lv_if_ne (tgt := 26) X.1 X.2.1 dX8_table_20 (by decide) (fun c8 => ?_) (fun c8 => ?_)
    · have h := h.1 c8
      refine lv_iload X.1 X.2.1 dX8_table_26 (lv_at hl 5 rfl) ?_
      refine tw_ci w (va_runS (As := [.int x5]) (rest := []) X (ct_X8_isSide l D g hT _ σ6 x5 _ h) (va_cwS 1 X.2.2.2.2 gX8_table_X8_isSide rfl rfl rfl (by decide +kernel) ⟨Nat.le_of_ble_eq_true rfl, Nat.le_of_ble_eq_true rfl⟩) (tw_pre hK w [.int x5]) rfl rfl hl.1 rfl (lv_room (Nat.le_of_ble_eq_true rfl)) dX8_table_28 ⟨Nat.zero_le _, Nat.zero_le _⟩) (fun r10 σ9 H locs h w => ?_)
      refine lv_if_eq (tgt := 43) X.1 X.2.1 dX8_table_31 (by decide) (fun c11 => ?_) (fun c11 => ?_)
      · have h := h.1 c11
        refine lv_ldc (own := RX8) (v := -1000000002) X.1 X.2.1 X.2.2.2.1 (X.2.2.2.2 _ (List.mem_of_getElem? (i := 3) rfl)) dX8_table_43 ?_
        exact tw_iret X hr hlk w h dX8_table_45
      · have h := h.2 c11
        refine lv_aload_n X.1 X.2.1 dX8_table_34 rfl (lv_at hl 0 rfl) ?_
        refine lv_iload_n X.1 X.2.1 dX8_table_35 rfl (lv_at hl 2 rfl) ?_
        refine lv_iload_n X.1 X.2.1 dX8_table_36 rfl (lv_at hl 3 rfl) ?_
        refine tw_ci w (va_runV (As := [.int x2, .int x3]) (rest := []) X (ct_X8_isPiece l D g hT _ σ9 a0 h0 x2 x3 _ h) (cwV 2 X.2.2.2.2 gX8_table_X8_isPiece rfl rfl rfl (by decide +kernel) ⟨Nat.le_of_ble_eq_true rfl, Nat.le_of_ble_eq_true rfl⟩) (tw_preV hK w h0 (by decide) rfl [.int x2, .int x3]) rfl rfl hl.1 rfl (lv_room (Nat.le_of_ble_eq_true rfl)) dX8_table_37 ⟨Nat.zero_le _, Nat.zero_le _⟩) (fun r13 σ12 H locs h w => ?_)
        refine lv_if_ne (tgt := 46) X.1 X.2.1 dX8_table_40 (by decide) (fun c14 => ?_) (fun c14 => ?_)
        · have h := h.1 c14
          refine lv_aload_n X.1 X.2.1 dX8_table_46 rfl (lv_at hl 0 rfl) ?_
          refine lv_aload_n X.1 X.2.1 dX8_table_47 rfl (lv_at hl 0 rfl) ?_
          refine tw_get X hK w 8 iw_X8_table_8 h0 (by decide) rfl 0 (by decide) (List.mem_of_getElem? (i := 1) rfl) rfl dX8_table_48 ?_
          refine lv_iload_n X.1 X.2.1 dX8_table_51 rfl (lv_at hl 1 rfl) ?_
          refine tw_cr w (va_runV (As := [.int x1]) (rest := [.ref a0]) X (ct_X0_at l D g hT _ σ12 (tw_R g a0 0) (tw_t_8_0 hT h0) x1 _ h) (cwV 1 X.2.2.2.2 gX8_table_X0_at rfl rfl rfl (by decide +kernel) ⟨Nat.le_of_ble_eq_true rfl, Nat.le_of_ble_eq_true rfl⟩) (tw_preV hK w (tw_t_8_0 hT h0) (by decide) rfl [.int x1]) rfl rfl hl.1 rfl (lv_room (Nat.le_of_ble_eq_true rfl)) dX8_table_52 ⟨Nat.zero_le _, Nat.zero_le _⟩) (fun y16 σ15 H locs hy16 h w => ?_)
          refine lv_iload_n X.1 X.2.1 dX8_table_55 rfl (lv_at hl 2 rfl) ?_
          refine lv_iload_n X.1 X.2.1 dX8_table_56 rfl (lv_at hl 3 rfl) ?_
          refine lv_iload X.1 X.2.1 dX8_table_57 (lv_at hl 4 rfl) ?_
          refine lv_iload X.1 X.2.1 dX8_table_59 (lv_at hl 5 rfl) ?_
          refine tw_ci w (va_runV (As := [.ref y16, .int x2, .int x3, .int x4, .int x5]) (rest := []) X (ct_X8_goOffPiece l D g hT _ σ15 a0 h0 y16 hy16 x2 x3 x4 x5 _ h) (cwV 5 X.2.2.2.2 gX8_table_X8_goOffPiece rfl rfl rfl (by decide +kernel) ⟨Nat.le_of_ble_eq_true rfl, Nat.le_of_ble_eq_true rfl⟩) (tw_preV hK w h0 (by decide) rfl [.ref y16, .int x2, .int x3, .int x4, .int x5]) rfl rfl hl.1 rfl (lv_room (Nat.le_of_ble_eq_true rfl)) dX8_table_61 ⟨Nat.zero_le _, Nat.zero_le _⟩) (fun r18 σ17 H locs h w => ?_)
          exact tw_iret X hr hlk w h dX8_table_64
        · have h := h.2 c14
          refine lv_ldc (own := RX8) (v := -1000000002) X.1 X.2.1 X.2.2.2.1 (X.2.2.2.2 _ (List.mem_of_getElem? (i := 3) rfl)) dX8_table_43 ?_
          exact tw_iret X hr hlk w h dX8_table_45
    · have h := h.2 c8
      refine lv_ldc (own := RX8) (v := -1000000001) X.1 X.2.1 X.2.2.2.1 (X.2.2.2.2 _ (List.mem_of_getElem? (i := 2) rfl)) dX8_table_23 ?_
      exact tw_iret X hr hlk w h dX8_table_25

abbrev RM_X8_alike : Room := { frames := 3, cells := 0, slots := 0, locals := 71 }
theorem iw_X8_alike_8 : ∀ w ∈ wsX80, w ∈ wsX8_alike := fun w h => List.mem_cons_of_mem _ (List.mem_append_left _ (List.mem_append_left _ (List.mem_append_left _ (List.mem_append_right _ (h)))))
def wl_X8_alike_59 (g : tw_G) (a0 : Nat) (x2 : Int32) (x3 : Int32) (x4 : Int32) (x5 : Int32) (a6 : Nat) (x7 : Int32) (Q : Int32 → tw_S → Prop) (k94 : tw_S → Prop) (k102 : tw_S → Prop) : Nat → Int32 → tw_S → Prop
  | 0, _, _ => False
  | n + 1, x8, σ => (((1 : Int32) < x8) → k102  σ) ∧ (¬ ((1 : Int32) < x8) → wp_X8_goOffPiece g σ a0 a6 x2 x3 x7 x8 (fun r17 σ16 => wp_X8_goOffPiece g σ16 a0 a6 x4 x5 x7 x8 (fun r19 σ18 => ((r17 = r19) → wl_X8_alike_59 g a0 x2 x3 x4 x5 a6 x7 Q k94 k102 n (x8 + 1) σ18) ∧ (¬ (r17 = r19) → k94  σ18))))
def wl_X8_alike_46 (g : tw_G) (a0 : Nat) (x2 : Int32) (x3 : Int32) (x4 : Int32) (x5 : Int32) (a6 : Nat) (Q : Int32 → tw_S → Prop) (k94 : tw_S → Prop) (k108 : tw_S → Prop) : Nat → Int32 → tw_S → Prop
  | 0, _, _ => False
  | n + 1, x7, σ => wp_X3_size g σ a6 (fun r13 σ12 => ((r13 ≤ x7) → k108  σ12) ∧ (¬ (r13 ≤ x7) → ∃ n59, wl_X8_alike_59 g a0 x2 x3 x4 x5 a6 x7 Q (fun σ21 => k94  σ21) (fun σ22 => wl_X8_alike_46 g a0 x2 x3 x4 x5 a6 Q k94 k108 n (x7 + 1) σ22) n59 (0 : Int32) σ12))
def wp_X8_alike (g : tw_G) (σ : tw_S) (a0 : Nat) (x1 : Int32) (x2 : Int32) (x3 : Int32) (x4 : Int32) (x5 : Int32) (Q : Int32 → tw_S → Prop) : Prop := wp_X8_isMachine g σ x1 (fun r2 σ1 => ((¬ r2 = 0) → wp_X8_isPiece g σ1 a0 x2 x3 (fun r5 σ4 => ((r5 = 0) → Q (-1000000002 : Int32) σ4) ∧ (¬ (r5 = 0) → wp_X8_isPiece g σ4 a0 x4 x5 (fun r8 σ7 => ((¬ r8 = 0) → wp_X0_at g σ7 (tw_R g a0 0) x1 (fun y11 σ10 => ∃ n46, wl_X8_alike_46 g a0 x2 x3 x4 x5 y11 Q (fun σ23 => Q (0 : Int32) σ23) (fun σ24 => Q (1 : Int32) σ24) n46 (0 : Int32) σ10)) ∧ ((r8 = 0) → Q (-1000000002 : Int32) σ7))))) ∧ ((r2 = 0) → Q (-1000000001 : Int32) σ1))
set_option maxHeartbeats 4000000 in
set_option maxRecDepth 100000 in
theorem lp_X8_alike_59 {p : Program} {l : Launch} {e : Env} {s : State} {m : MethodId} {args : Array Value} {below : List Frame} {meth : Method} {c : Code} {D : va_G} {g : tw_G} (X : CallFix p m c cX8_alike 9 s args wsX8_alike RX8) (hr : meth.sig.returnType = (some .int)) (hlk : meth.locks = false) (hK : tw_k D g s) (hT : tw_T g) {a0 : Nat} {x2 : Int32} {x3 : Int32} {x4 : Int32} {x5 : Int32} {a6 : Nat} {x7 : Int32} (h0 : tw_is g 8 a0) (h6 : tw_is g 3 a6) {Q : Int32 → tw_S → Prop} {k94 : tw_S → Prop} {k102 : tw_S → Prop}
    (hk94 : ∀  (σ : tw_S) (H : Heap) (locs : List Loc) (ls : Array Slot), k94  σ → tw_w D g (tw_F g s.heap.size) s σ H locs → lv_has ls 9 [] → W p l e RM_X8_alike s m args below meth c H locs 0 0 (tw_Qi Q D g below args s) (F0 m 94 ls []))
    (hk102 : ∀  (σ : tw_S) (H : Heap) (locs : List Loc) (ls : Array Slot), k102  σ → tw_w D g (tw_F g s.heap.size) s σ H locs → lv_has ls 9 [(0, .ref a0), (2, .int x2), (3, .int x3), (4, .int x4), (5, .int x5), (6, .ref a6), (7, .int x7)] → W p l e RM_X8_alike s m args below meth c H locs 0 0 (tw_Qi Q D g below args s) (F0 m 102 ls []))
    : ∀ (n : Nat) (x8 : Int32) (σ : tw_S) (H : Heap) (locs : List Loc) (ls : Array Slot), wl_X8_alike_59 g a0 x2 x3 x4 x5 a6 x7 Q k94 k102 n x8 σ → tw_w D g (tw_F g s.heap.size) s σ H locs → lv_has ls 9 [(0, .ref a0), (2, .int x2), (3, .int x3), (4, .int x4), (5, .int x5), (6, .ref a6), (7, .int x7), (8, .int x8)] → W p l e RM_X8_alike s m args below meth c H locs 0 0 (tw_Qi Q D g below args s) (F0 m 59 ls []) := by
  intro n
  induction n with
  | zero =>
    intro x8 σ H locs ls h w hl
    exact False.elim h
  | succ n ih =>
    intro x8 σ H locs ls h w hl
    rw [wl_X8_alike_59] at h
    refine lv_iload X.1 X.2.1 dX8_alike_59 (lv_at hl 7 rfl) ?_
    refine lv_iconst (v := 1) X.1 X.2.1 dX8_alike_61 (by decide) ?_
    refine lv_icmp_gt (tgt := 102) X.1 X.2.1 dX8_alike_62 (by decide) (fun c15 => ?_) (fun c15 => ?_)
    · have h := h.1 c15
      exact hk102  σ _ _ ls h w (lv_sub hl [0, 1, 2, 3, 4, 5, 6] rfl)
    · have h := h.2 c15
      refine lv_aload_n X.1 X.2.1 dX8_alike_65 rfl (lv_at hl 0 rfl) ?_
      refine lv_aload X.1 X.2.1 dX8_alike_66 (lv_at hl 5 rfl) ?_
      refine lv_iload_n X.1 X.2.1 dX8_alike_68 rfl (lv_at hl 1 rfl) ?_
      refine lv_iload_n X.1 X.2.1 dX8_alike_69 rfl (lv_at hl 2 rfl) ?_
      refine lv_iload X.1 X.2.1 dX8_alike_70 (lv_at hl 6 rfl) ?_
      refine lv_iload X.1 X.2.1 dX8_alike_72 (lv_at hl 7 rfl) ?_
      refine tw_ci w (va_runV (As := [.ref a6, .int x2, .int x3, .int x7, .int x8]) (rest := []) X (ct_X8_goOffPiece l D g hT _ σ a0 h0 a6 h6 x2 x3 x7 x8 _ h) (cwV 5 X.2.2.2.2 gX8_alike_X8_goOffPiece rfl rfl rfl (by decide +kernel) ⟨Nat.le_of_ble_eq_true rfl, Nat.le_of_ble_eq_true rfl⟩) (tw_preV hK w h0 (by decide) rfl [.ref a6, .int x2, .int x3, .int x7, .int x8]) rfl rfl hl.1 rfl (lv_room (Nat.le_of_ble_eq_true rfl)) dX8_alike_74 ⟨Nat.zero_le _, Nat.zero_le _⟩) (fun r17 σ16 H locs h w => ?_)
      refine lv_aload_n X.1 X.2.1 dX8_alike_77 rfl (lv_at hl 0 rfl) ?_
      refine lv_aload X.1 X.2.1 dX8_alike_78 (lv_at hl 5 rfl) ?_
      refine lv_iload X.1 X.2.1 dX8_alike_80 (lv_at hl 3 rfl) ?_
      refine lv_iload X.1 X.2.1 dX8_alike_82 (lv_at hl 4 rfl) ?_
      refine lv_iload X.1 X.2.1 dX8_alike_84 (lv_at hl 6 rfl) ?_
      refine lv_iload X.1 X.2.1 dX8_alike_86 (lv_at hl 7 rfl) ?_
      refine tw_ci w (va_runV (As := [.ref a6, .int x4, .int x5, .int x7, .int x8]) (rest := [.int r17]) X (ct_X8_goOffPiece l D g hT _ σ16 a0 h0 a6 h6 x4 x5 x7 x8 _ h) (cwV 5 X.2.2.2.2 gX8_alike_X8_goOffPiece rfl rfl rfl (by decide +kernel) ⟨Nat.le_of_ble_eq_true rfl, Nat.le_of_ble_eq_true rfl⟩) (tw_preV hK w h0 (by decide) rfl [.ref a6, .int x4, .int x5, .int x7, .int x8]) rfl rfl hl.1 rfl (lv_room (Nat.le_of_ble_eq_true rfl)) dX8_alike_88 ⟨Nat.zero_le _, Nat.zero_le _⟩) (fun r19 σ18 H locs h w => ?_)
      refine lv_icmp_eq (tgt := 96) X.1 X.2.1 dX8_alike_91 (by decide) (fun c20 => ?_) (fun c20 => ?_)
      · have h := h.1 c20
        refine lv_iinc (v := (x8 + 1)) (lv' := [(8, .int (x8 + 1)), (0, .ref a0), (2, .int x2), (3, .int x3), (4, .int x4), (5, .int x5), (6, .ref a6), (7, .int x7)]) X.1 X.2.1 dX8_alike_96 hl (k := 7) rfl rfl (by decide) rfl (fun ls hl => ?_)
        refine lv_goto (tgt := 59) X.1 X.2.1 dX8_alike_99 (by decide) ?_
        exact ih (x8 + 1) σ18 _ _ ls h w (lv_sub hl [1, 2, 3, 4, 5, 6, 7, 0] rfl)
      · have h := h.2 c20
        exact hk94  σ18 _ _ ls h w (lv_sub hl [] rfl)
set_option maxHeartbeats 4000000 in
set_option maxRecDepth 100000 in
theorem lp_X8_alike_46 {p : Program} {l : Launch} {e : Env} {s : State} {m : MethodId} {args : Array Value} {below : List Frame} {meth : Method} {c : Code} {D : va_G} {g : tw_G} (X : CallFix p m c cX8_alike 9 s args wsX8_alike RX8) (hr : meth.sig.returnType = (some .int)) (hlk : meth.locks = false) (hK : tw_k D g s) (hT : tw_T g) {a0 : Nat} {x2 : Int32} {x3 : Int32} {x4 : Int32} {x5 : Int32} {a6 : Nat} (h0 : tw_is g 8 a0) (h6 : tw_is g 3 a6) {Q : Int32 → tw_S → Prop} {k94 : tw_S → Prop} {k108 : tw_S → Prop}
    (hk94 : ∀  (σ : tw_S) (H : Heap) (locs : List Loc) (ls : Array Slot), k94  σ → tw_w D g (tw_F g s.heap.size) s σ H locs → lv_has ls 9 [] → W p l e RM_X8_alike s m args below meth c H locs 0 0 (tw_Qi Q D g below args s) (F0 m 94 ls []))
    (hk108 : ∀  (σ : tw_S) (H : Heap) (locs : List Loc) (ls : Array Slot), k108  σ → tw_w D g (tw_F g s.heap.size) s σ H locs → lv_has ls 9 [] → W p l e RM_X8_alike s m args below meth c H locs 0 0 (tw_Qi Q D g below args s) (F0 m 108 ls []))
    : ∀ (n : Nat) (x7 : Int32) (σ : tw_S) (H : Heap) (locs : List Loc) (ls : Array Slot), wl_X8_alike_46 g a0 x2 x3 x4 x5 a6 Q k94 k108 n x7 σ → tw_w D g (tw_F g s.heap.size) s σ H locs → lv_has ls 9 [(0, .ref a0), (2, .int x2), (3, .int x3), (4, .int x4), (5, .int x5), (6, .ref a6), (7, .int x7)] → W p l e RM_X8_alike s m args below meth c H locs 0 0 (tw_Qi Q D g below args s) (F0 m 46 ls []) := by
  intro n
  induction n with
  | zero =>
    intro x7 σ H locs ls h w hl
    exact False.elim h
  | succ n ih =>
    intro x7 σ H locs ls h w hl
    rw [wl_X8_alike_46] at h
    refine lv_iload X.1 X.2.1 dX8_alike_46 (lv_at hl 6 rfl) ?_
    refine lv_aload X.1 X.2.1 dX8_alike_48 (lv_at hl 5 rfl) ?_
    refine tw_ci w (va_runV (As := []) (rest := [.int x7]) X (ct_X3_size l D g hT _ σ a6 h6 _ h) (cwV 0 X.2.2.2.2 gX8_alike_X3_size rfl rfl rfl (by decide +kernel) ⟨Nat.le_of_ble_eq_true rfl, Nat.le_of_ble_eq_true rfl⟩) (tw_preV hK w h6 (by decide) rfl []) rfl rfl hl.1 rfl (lv_room (Nat.le_of_ble_eq_true rfl)) dX8_alike_50 ⟨Nat.zero_le _, Nat.zero_le _⟩) (fun r13 σ12 H locs h w => ?_)
    refine lv_icmp_ge (tgt := 108) X.1 X.2.1 dX8_alike_53 (by decide) (fun c14 => ?_) (fun c14 => ?_)
    · have h := h.1 c14
      exact hk108  σ12 _ _ ls h w (lv_sub hl [] rfl)
    · have h := h.2 c14
      refine lv_iconst (v := 0) X.1 X.2.1 dX8_alike_56 (by decide) ?_
      refine lv_istore (lv' := [(8, .int (0 : Int32)), (0, .ref a0), (2, .int x2), (3, .int x3), (4, .int x4), (5, .int x5), (6, .ref a6), (7, .int x7)]) X.1 X.2.1 dX8_alike_57 hl (by decide) rfl (fun ls hl => ?_)
      obtain ⟨n59, h⟩ := h
      refine lp_X8_alike_59 X hr hlk hK hT h0 h6 (fun σ21 H locs ls h w hl => ?_) (fun σ22 H locs ls h w hl => ?_) n59 (0 : Int32) σ12 _ _ ls h w (lv_sub hl [1, 2, 3, 4, 5, 6, 7, 0] rfl)
      · skip
        exact hk94  σ21 _ _ ls h w (lv_sub hl [] rfl)
      · skip
        refine lv_iinc (v := (x7 + 1)) (lv' := [(7, .int (x7 + 1)), (0, .ref a0), (2, .int x2), (3, .int x3), (4, .int x4), (5, .int x5), (6, .ref a6)]) X.1 X.2.1 dX8_alike_102 hl (k := 6) rfl rfl (by decide) rfl (fun ls hl => ?_)
        refine lv_goto (tgt := 46) X.1 X.2.1 dX8_alike_105 (by decide) ?_
        exact ih (x7 + 1) σ22 _ _ ls h w (lv_sub hl [1, 2, 3, 4, 5, 6, 0] rfl)
set_option maxHeartbeats 4000000 in
set_option maxRecDepth 100000 in
theorem ct_X8_alike (l : Launch) (D : va_G) (g : tw_G) (hT : tw_T g) (sz : Nat) (σ : tw_S) (a0 : Nat) (h0 : tw_is g 8 a0) (x1 : Int32) (x2 : Int32) (x3 : Int32) (x4 : Int32) (x5 : Int32) (Q : Int32 → tw_S → Prop) (h : wp_X8_alike g σ a0 x1 x2 x3 x4 x5 Q) : tw_Mi l yX8_alike wsX8_alike RM_X8_alike D g sz σ [.ref a0, .int x1, .int x2, .int x3, .int x4, .int x5] Q := by
  refine Met.ofW (cc := cX8_alike) (maxL := 9) (ret := (some .int)) (by decide) rfl ?_
  intro p e s m args below meth c s₁ B hml hv
  obtain ⟨rfl, hsz, hP, hK, hD0⟩ := hv
  subst hsz
  have hr := B.returns
  have hlk := B.notSynchronized
  have X : CallFix p m c cX8_alike 9 s _ wsX8_alike RX8 := ⟨B.exec, B.bytes, hml, findClass_of_methodNamed B.named, atoms_spec (ws := wsX8_alike) B.pre⟩
  have w := tw_w0 hP hD0
  have hl := lv_entry ([.ref a0, .int x1, .int x2, .int x3, .int x4, .int x5]) (n := 9) (Nat.le_of_ble_eq_true rfl)
  rw [lg_entry_eq]
  generalize (lg_sl ([.ref a0, .int x1, .int x2, .int x3, .int x4, .int x5]) ++ List.replicate (9 - (lg_sl ([.ref a0, .int x1, .int x2, .int x3, .int x4, .int x5])).length) Slot.unset).toArray = ls at hl ⊢
  have hl : lv_has ls 9 [(0, .ref a0), (1, .int x1), (2, .int x2), (3, .int x3), (4, .int x4), (5, .int x5)] := hl
  unfold wp_X8_alike at h
  refine lv_iload_n X.1 X.2.1 dX8_alike_0 rfl (lv_at hl 1 rfl) ?_
  refine tw_ci w (va_runS (As := [.int x1]) (rest := []) X (ct_X8_isMachine l D g hT _ σ x1 _ h) (va_cwS 1 X.2.2.2.2 gX8_alike_X8_isMachine rfl rfl rfl (by decide +kernel) ⟨Nat.le_of_ble_eq_true rfl, Nat.le_of_ble_eq_true rfl⟩) (tw_pre hK w [.int x1]) rfl rfl hl.1 rfl (lv_room (Nat.le_of_ble_eq_true rfl)) dX8_alike_1 ⟨Nat.zero_le _, Nat.zero_le _⟩) (fun r2 σ1 H locs h w => ?_)
  refine lv_if_ne (tgt := 10) X.1 X.2.1 dX8_alike_4 (by decide) (fun c3 => ?_) (fun c3 => ?_)
  · have h := h.1 c3
    refine lv_aload_n X.1 X.2.1 dX8_alike_10 rfl (lv_at hl 0 rfl) ?_
    refine lv_iload_n X.1 X.2.1 dX8_alike_11 rfl (lv_at hl 2 rfl) ?_
    refine lv_iload_n X.1 X.2.1 dX8_alike_12 rfl (lv_at hl 3 rfl) ?_
    refine tw_ci w (va_runV (As := [.int x2, .int x3]) (rest := []) X (ct_X8_isPiece l D g hT _ σ1 a0 h0 x2 x3 _ h) (cwV 2 X.2.2.2.2 gX8_alike_X8_isPiece rfl rfl rfl (by decide +kernel) ⟨Nat.le_of_ble_eq_true rfl, Nat.le_of_ble_eq_true rfl⟩) (tw_preV hK w h0 (by decide) rfl [.int x2, .int x3]) rfl rfl hl.1 rfl (lv_room (Nat.le_of_ble_eq_true rfl)) dX8_alike_13 ⟨Nat.zero_le _, Nat.zero_le _⟩) (fun r5 σ4 H locs h w => ?_)
    refine lv_if_eq (tgt := 30) X.1 X.2.1 dX8_alike_16 (by decide) (fun c6 => ?_) (fun c6 => ?_)
    · have h := h.1 c6
      refine lv_ldc (own := RX8) (v := -1000000002) X.1 X.2.1 X.2.2.2.1 (X.2.2.2.2 _ (List.mem_of_getElem? (i := 2) rfl)) dX8_alike_30 ?_
      exact tw_iret X hr hlk w h dX8_alike_32
    · have h := h.2 c6
      refine lv_aload_n X.1 X.2.1 dX8_alike_19 rfl (lv_at hl 0 rfl) ?_
      refine lv_iload X.1 X.2.1 dX8_alike_20 (lv_at hl 4 rfl) ?_
      refine lv_iload X.1 X.2.1 dX8_alike_22 (lv_at hl 5 rfl) ?_
      refine tw_ci w (va_runV (As := [.int x4, .int x5]) (rest := []) X (ct_X8_isPiece l D g hT _ σ4 a0 h0 x4 x5 _ h) (cwV 2 X.2.2.2.2 gX8_alike_X8_isPiece rfl rfl rfl (by decide +kernel) ⟨Nat.le_of_ble_eq_true rfl, Nat.le_of_ble_eq_true rfl⟩) (tw_preV hK w h0 (by decide) rfl [.int x4, .int x5]) rfl rfl hl.1 rfl (lv_room (Nat.le_of_ble_eq_true rfl)) dX8_alike_24 ⟨Nat.zero_le _, Nat.zero_le _⟩) (fun r8 σ7 H locs h w => ?_)
      refine lv_if_ne (tgt := 33) X.1 X.2.1 dX8_alike_27 (by decide) (fun c9 => ?_) (fun c9 => ?_)
      · have h := h.1 c9
        refine lv_aload_n X.1 X.2.1 dX8_alike_33 rfl (lv_at hl 0 rfl) ?_
        refine tw_get X hK w 8 iw_X8_alike_8 h0 (by decide) rfl 0 (by decide) (List.mem_of_getElem? (i := 3) rfl) rfl dX8_alike_34 ?_
        refine lv_iload_n X.1 X.2.1 dX8_alike_37 rfl (lv_at hl 1 rfl) ?_
        refine tw_cr w (va_runV (As := [.int x1]) (rest := []) X (ct_X0_at l D g hT _ σ7 (tw_R g a0 0) (tw_t_8_0 hT h0) x1 _ h) (cwV 1 X.2.2.2.2 gX8_alike_X0_at rfl rfl rfl (by decide +kernel) ⟨Nat.le_of_ble_eq_true rfl, Nat.le_of_ble_eq_true rfl⟩) (tw_preV hK w (tw_t_8_0 hT h0) (by decide) rfl [.int x1]) rfl rfl hl.1 rfl (lv_room (Nat.le_of_ble_eq_true rfl)) dX8_alike_38 ⟨Nat.zero_le _, Nat.zero_le _⟩) (fun y11 σ10 H locs hy11 h w => ?_)
        refine lv_astore (lv' := [(6, .ref y11), (0, .ref a0), (1, .int x1), (2, .int x2), (3, .int x3), (4, .int x4), (5, .int x5)]) X.1 X.2.1 dX8_alike_41 hl (by decide) rfl (fun ls hl => ?_)
        have hl := lv_sub (l' := [(6, .ref y11), (0, .ref a0), (2, .int x2), (3, .int x3), (4, .int x4), (5, .int x5)]) hl [0, 1, 3, 4, 5, 6] rfl
        refine lv_iconst (v := 0) X.1 X.2.1 dX8_alike_43 (by decide) ?_
        refine lv_istore (lv' := [(7, .int (0 : Int32)), (6, .ref y11), (0, .ref a0), (2, .int x2), (3, .int x3), (4, .int x4), (5, .int x5)]) X.1 X.2.1 dX8_alike_44 hl (by decide) rfl (fun ls hl => ?_)
        obtain ⟨n46, h⟩ := h
        refine lp_X8_alike_46 X hr hlk hK hT h0 hy11 (fun σ23 H locs ls h w hl => ?_) (fun σ24 H locs ls h w hl => ?_) n46 (0 : Int32) σ10 _ _ ls h w (lv_sub hl [2, 3, 4, 5, 6, 1, 0] rfl)
        · skip
          refine lv_iconst (v := 0) X.1 X.2.1 dX8_alike_94 (by decide) ?_
          exact tw_iret X hr hlk w h dX8_alike_95
        · skip
          refine lv_iconst (v := 1) X.1 X.2.1 dX8_alike_108 (by decide) ?_
          exact tw_iret X hr hlk w h dX8_alike_109
      · have h := h.2 c9
        refine lv_ldc (own := RX8) (v := -1000000002) X.1 X.2.1 X.2.2.2.1 (X.2.2.2.2 _ (List.mem_of_getElem? (i := 2) rfl)) dX8_alike_30 ?_
        exact tw_iret X hr hlk w h dX8_alike_32
  · have h := h.2 c3
    refine lv_ldc (own := RX8) (v := -1000000001) X.1 X.2.1 X.2.2.2.1 (X.2.2.2.2 _ (List.mem_of_getElem? (i := 1) rfl)) dX8_alike_7 ?_
    exact tw_iret X hr hlk w h dX8_alike_9

abbrev RM_X8_oneWayFor : Room := { frames := 5, cells := 0, slots := 0, locals := 116 }
theorem iw_X8_oneWayFor_8 : ∀ w ∈ wsX80, w ∈ wsX8_oneWayFor := fun w h => List.mem_cons_of_mem _ (List.mem_append_left _ (List.mem_append_left _ (List.mem_append_left _ (List.mem_append_right _ (h)))))
def wp_X8_oneWayFor (g : tw_G) (σ : tw_S) (a0 : Nat) (x1 : Int32) (Q : Nat → tw_S → Prop) : Prop := ((¬ x1 = 0) → wp_X0_at g σ (tw_R g a0 0) x1 (fun y3 σ2 => wp_X5_make g σ2 (tw_R g a0 10) y3 (fun σ4 => Q (tw_R g a0 10) σ4))) ∧ ((x1 = 0) → wp_X0_at g σ (tw_R g a0 0) x1 (fun y6 σ5 => wp_X5_make g σ5 (tw_R g a0 9) y6 (fun σ7 => Q (tw_R g a0 9) σ7)))
set_option maxHeartbeats 4000000 in
set_option maxRecDepth 100000 in
theorem ct_X8_oneWayFor (l : Launch) (D : va_G) (g : tw_G) (hT : tw_T g) (sz : Nat) (σ : tw_S) (a0 : Nat) (h0 : tw_is g 8 a0) (x1 : Int32) (Q : Nat → tw_S → Prop) (h : wp_X8_oneWayFor g σ a0 x1 Q) : tw_Mq l yX8_oneWayFor wsX8_oneWayFor RM_X8_oneWayFor D g sz σ [.ref a0, .int x1] (fun r σ => ∃ y, r = some y ∧ tw_is g 5 y ∧ Q y σ) := by
  refine Met.ofW (cc := cX8_oneWayFor) (maxL := 3) (ret := (some (.object "TwoWays$OneWay"))) (by decide) rfl ?_
  intro p e s m args below meth c s₁ B hml hv
  obtain ⟨rfl, hsz, hP, hK, hD0⟩ := hv
  subst hsz
  have hr := B.returns
  have hlk := B.notSynchronized
  have X : CallFix p m c cX8_oneWayFor 3 s _ wsX8_oneWayFor RX8 := ⟨B.exec, B.bytes, hml, findClass_of_methodNamed B.named, atoms_spec (ws := wsX8_oneWayFor) B.pre⟩
  have w := tw_w0 hP hD0
  have hl := lv_entry ([.ref a0, .int x1]) (n := 3) (Nat.le_of_ble_eq_true rfl)
  rw [lg_entry_eq]
  generalize (lg_sl ([.ref a0, .int x1]) ++ List.replicate (3 - (lg_sl ([.ref a0, .int x1])).length) Slot.unset).toArray = ls at hl ⊢
  have hl : lv_has ls 3 [(0, .ref a0), (1, .int x1)] := hl
  unfold wp_X8_oneWayFor at h
  refine lv_iload_n X.1 X.2.1 dX8_oneWayFor_0 rfl (lv_at hl 1 rfl) ?_
  refine lv_if_ne (tgt := 11) X.1 X.2.1 dX8_oneWayFor_1 (by decide) (fun c1 => ?_) (fun c1 => ?_)
  · have h := h.1 c1
    refine lv_aload_n X.1 X.2.1 dX8_oneWayFor_11 rfl (lv_at hl 0 rfl) ?_
    refine tw_get X hK w 8 iw_X8_oneWayFor_8 h0 (by decide) rfl 10 (by decide) (List.mem_of_getElem? (i := 2) rfl) rfl dX8_oneWayFor_12 ?_
    refine lv_astore_n (lv' := [(2, .ref (tw_R g a0 10)), (0, .ref a0), (1, .int x1)]) X.1 X.2.1 dX8_oneWayFor_15 rfl hl (by decide) rfl (fun ls hl => ?_)
    refine lv_aload_n X.1 X.2.1 dX8_oneWayFor_16 rfl (lv_at hl 0 rfl) ?_
    refine lv_aload_n X.1 X.2.1 dX8_oneWayFor_17 rfl (lv_at hl 1 rfl) ?_
    refine tw_get X hK w 8 iw_X8_oneWayFor_8 h0 (by decide) rfl 0 (by decide) (List.mem_of_getElem? (i := 3) rfl) rfl dX8_oneWayFor_18 ?_
    refine lv_iload_n X.1 X.2.1 dX8_oneWayFor_21 rfl (lv_at hl 2 rfl) ?_
    refine tw_cr w (va_runV (As := [.int x1]) (rest := [.ref (tw_R g a0 10)]) X (ct_X0_at l D g hT _ σ (tw_R g a0 0) (tw_t_8_0 hT h0) x1 _ h) (cwV 1 X.2.2.2.2 gX8_oneWayFor_X0_at rfl rfl rfl (by decide +kernel) ⟨Nat.le_of_ble_eq_true rfl, Nat.le_of_ble_eq_true rfl⟩) (tw_preV hK w (tw_t_8_0 hT h0) (by decide) rfl [.int x1]) rfl rfl hl.1 rfl (lv_room (Nat.le_of_ble_eq_true rfl)) dX8_oneWayFor_22 ⟨Nat.zero_le _, Nat.zero_le _⟩) (fun y3 σ2 H locs hy3 h w => ?_)
    refine tw_cv w (va_runV (As := [.ref y3]) (rest := []) X (ct_X5_make l D g hT _ σ2 (tw_R g a0 10) (tw_t_8_10 hT h0) y3 hy3 _ h) (cwV 1 X.2.2.2.2 gX8_oneWayFor_X5_make rfl rfl rfl (by decide +kernel) ⟨Nat.le_of_ble_eq_true rfl, Nat.le_of_ble_eq_true rfl⟩) (tw_preV hK w (tw_t_8_10 hT h0) (by decide) rfl [.ref y3]) rfl rfl hl.1 rfl (lv_room (Nat.le_of_ble_eq_true rfl)) dX8_oneWayFor_25 ⟨Nat.zero_le _, Nat.zero_le _⟩) (fun σ4 H locs h w => ?_)
    refine lv_aload_n X.1 X.2.1 dX8_oneWayFor_28 rfl (lv_at hl 0 rfl) ?_
    exact tw_qret (v := some (tw_R g a0 10)) X hr hlk w ⟨_, rfl, (tw_t_8_10 hT h0), h⟩ dX8_oneWayFor_29
  · have h := h.2 c1
    refine lv_aload_n X.1 X.2.1 dX8_oneWayFor_4 rfl (lv_at hl 0 rfl) ?_
    refine tw_get X hK w 8 iw_X8_oneWayFor_8 h0 (by decide) rfl 9 (by decide) (List.mem_of_getElem? (i := 1) rfl) rfl dX8_oneWayFor_5 ?_
    refine lv_goto (tgt := 15) X.1 X.2.1 dX8_oneWayFor_8 (by decide) ?_
    refine lv_astore_n (lv' := [(2, .ref (tw_R g a0 9)), (0, .ref a0), (1, .int x1)]) X.1 X.2.1 dX8_oneWayFor_15 rfl hl (by decide) rfl (fun ls hl => ?_)
    refine lv_aload_n X.1 X.2.1 dX8_oneWayFor_16 rfl (lv_at hl 0 rfl) ?_
    refine lv_aload_n X.1 X.2.1 dX8_oneWayFor_17 rfl (lv_at hl 1 rfl) ?_
    refine tw_get X hK w 8 iw_X8_oneWayFor_8 h0 (by decide) rfl 0 (by decide) (List.mem_of_getElem? (i := 3) rfl) rfl dX8_oneWayFor_18 ?_
    refine lv_iload_n X.1 X.2.1 dX8_oneWayFor_21 rfl (lv_at hl 2 rfl) ?_
    refine tw_cr w (va_runV (As := [.int x1]) (rest := [.ref (tw_R g a0 9)]) X (ct_X0_at l D g hT _ σ (tw_R g a0 0) (tw_t_8_0 hT h0) x1 _ h) (cwV 1 X.2.2.2.2 gX8_oneWayFor_X0_at rfl rfl rfl (by decide +kernel) ⟨Nat.le_of_ble_eq_true rfl, Nat.le_of_ble_eq_true rfl⟩) (tw_preV hK w (tw_t_8_0 hT h0) (by decide) rfl [.int x1]) rfl rfl hl.1 rfl (lv_room (Nat.le_of_ble_eq_true rfl)) dX8_oneWayFor_22 ⟨Nat.zero_le _, Nat.zero_le _⟩) (fun y6 σ5 H locs hy6 h w => ?_)
    refine tw_cv w (va_runV (As := [.ref y6]) (rest := []) X (ct_X5_make l D g hT _ σ5 (tw_R g a0 9) (tw_t_8_9 hT h0) y6 hy6 _ h) (cwV 1 X.2.2.2.2 gX8_oneWayFor_X5_make rfl rfl rfl (by decide +kernel) ⟨Nat.le_of_ble_eq_true rfl, Nat.le_of_ble_eq_true rfl⟩) (tw_preV hK w (tw_t_8_9 hT h0) (by decide) rfl [.ref y6]) rfl rfl hl.1 rfl (lv_room (Nat.le_of_ble_eq_true rfl)) dX8_oneWayFor_25 ⟨Nat.zero_le _, Nat.zero_le _⟩) (fun σ7 H locs h w => ?_)
    refine lv_aload_n X.1 X.2.1 dX8_oneWayFor_28 rfl (lv_at hl 0 rfl) ?_
    exact tw_qret (v := some (tw_R g a0 9)) X hr hlk w ⟨_, rfl, (tw_t_8_9 hT h0), h⟩ dX8_oneWayFor_29

abbrev RM_X8_ofMachine : Room := { frames := 6, cells := 0, slots := 0, locals := 138 }
theorem iw_X8_ofMachine_8 : ∀ w ∈ wsX80, w ∈ wsX8_ofMachine := fun w h => List.mem_cons_of_mem _ (List.mem_append_left _ (List.mem_append_left _ (List.mem_append_left _ (List.mem_append_right _ (h)))))
def wp_X8_ofMachine (g : tw_G) (σ : tw_S) (a0 : Nat) (x1 : Int32) (x2 : Int32) (Q : Int32 → tw_S → Prop) : Prop := wp_X8_isMachine g σ x1 (fun r2 σ1 => ((¬ r2 = 0) → ((x2 < 0) → Q (-1000000002 : Int32) σ1) ∧ (¬ (x2 < 0) → ((x2 ≤ (5 : Int32)) → wp_X0_at g σ1 (tw_R g a0 0) x1 (fun y7 σ6 => (((2 : Int32) ≤ x2) → wp_X8_oneWayFor g σ6 a0 x1 (fun y10 σ9 => wp_X5_isTooMany g σ9 y10 (fun r12 σ11 => ((r12 = 0) → (x2 = 2 → wp_X5_size g σ11 y10 (fun r16 σ15 => Q r16 σ15)) ∧ (¬ x2 = 2 → (x2 = 3 → wp_X5_leastSize g σ11 y10 (fun r19 σ18 => Q r19 σ18)) ∧ (¬ x2 = 3 → (x2 = 4 → wp_X5_firstWord g σ11 y10 (1 : Int32) (fun r22 σ21 => Q r22 σ21)) ∧ (¬ x2 = 4 → wp_X5_firstWord g σ11 y10 (0 : Int32) (fun r24 σ23 => Q r24 σ23))))) ∧ (¬ (r12 = 0) → Q (-1000000004 : Int32) σ11)))) ∧ (¬ ((2 : Int32) ≤ x2) → ((¬ x2 = 0) → wp_X3_countMoves g σ6 y7 (fun r27 σ26 => Q r27 σ26)) ∧ ((x2 = 0) → wp_X3_size g σ6 y7 (fun r29 σ28 => Q r29 σ28))))) ∧ (¬ (x2 ≤ (5 : Int32)) → Q (-1000000002 : Int32) σ1))) ∧ ((r2 = 0) → Q (-1000000001 : Int32) σ1))
set_option maxHeartbeats 4000000 in
set_option maxRecDepth 100000 in
theorem ct_X8_ofMachine (l : Launch) (D : va_G) (g : tw_G) (hT : tw_T g) (sz : Nat) (σ : tw_S) (a0 : Nat) (h0 : tw_is g 8 a0) (x1 : Int32) (x2 : Int32) (Q : Int32 → tw_S → Prop) (h : wp_X8_ofMachine g σ a0 x1 x2 Q) : tw_Mi l yX8_ofMachine wsX8_ofMachine RM_X8_ofMachine D g sz σ [.ref a0, .int x1, .int x2] Q := by
  refine Met.ofW (cc := cX8_ofMachine) (maxL := 5) (ret := (some .int)) (by decide) rfl ?_
  intro p e s m args below meth c s₁ B hml hv
  obtain ⟨rfl, hsz, hP, hK, hD0⟩ := hv
  subst hsz
  have hr := B.returns
  have hlk := B.notSynchronized
  have X : CallFix p m c cX8_ofMachine 5 s _ wsX8_ofMachine RX8 := ⟨B.exec, B.bytes, hml, findClass_of_methodNamed B.named, atoms_spec (ws := wsX8_ofMachine) B.pre⟩
  have w := tw_w0 hP hD0
  have hl := lv_entry ([.ref a0, .int x1, .int x2]) (n := 5) (Nat.le_of_ble_eq_true rfl)
  rw [lg_entry_eq]
  generalize (lg_sl ([.ref a0, .int x1, .int x2]) ++ List.replicate (5 - (lg_sl ([.ref a0, .int x1, .int x2])).length) Slot.unset).toArray = ls at hl ⊢
  have hl : lv_has ls 5 [(0, .ref a0), (1, .int x1), (2, .int x2)] := hl
  unfold wp_X8_ofMachine at h
  refine lv_iload_n X.1 X.2.1 dX8_ofMachine_0 rfl (lv_at hl 1 rfl) ?_
  refine tw_ci w (va_runS (As := [.int x1]) (rest := []) X (ct_X8_isMachine l D g hT _ σ x1 _ h) (va_cwS 1 X.2.2.2.2 gX8_ofMachine_X8_isMachine rfl rfl rfl (by decide +kernel) ⟨Nat.le_of_ble_eq_true rfl, Nat.le_of_ble_eq_true rfl⟩) (tw_pre hK w [.int x1]) rfl rfl hl.1 rfl (lv_room (Nat.le_of_ble_eq_true rfl)) dX8_ofMachine_1 ⟨Nat.zero_le _, Nat.zero_le _⟩) (fun r2 σ1 H locs h w => ?_)
  refine lv_if_ne (tgt := 10) X.1 X.2.1 dX8_ofMachine_4 (by decide) (fun c3 => ?_) (fun c3 => ?_)
  · have h := h.1 c3
    refine lv_iload_n X.1 X.2.1 dX8_ofMachine_10 rfl (lv_at hl 2 rfl) ?_
    refine lv_if_lt (tgt := 19) X.1 X.2.1 dX8_ofMachine_11 (by decide) (fun c4 => ?_) (fun c4 => ?_)
    · have h := h.1 c4
      refine lv_ldc (own := RX8) (v := -1000000002) X.1 X.2.1 X.2.2.2.1 (X.2.2.2.2 _ (List.mem_of_getElem? (i := 2) rfl)) dX8_ofMachine_19 ?_
      exact tw_iret X hr hlk w h dX8_ofMachine_21
    · have h := h.2 c4
      refine lv_iload_n X.1 X.2.1 dX8_ofMachine_14 rfl (lv_at hl 2 rfl) ?_
      refine lv_iconst (v := 5) X.1 X.2.1 dX8_ofMachine_15 (by decide) ?_
      refine lv_icmp_le (tgt := 22) X.1 X.2.1 dX8_ofMachine_16 (by decide) (fun c5 => ?_) (fun c5 => ?_)
      · have h := h.1 c5
        refine lv_aload_n X.1 X.2.1 dX8_ofMachine_22 rfl (lv_at hl 0 rfl) ?_
        refine tw_get X hK w 8 iw_X8_ofMachine_8 h0 (by decide) rfl 0 (by decide) (List.mem_of_getElem? (i := 3) rfl) rfl dX8_ofMachine_23 ?_
        refine lv_iload_n X.1 X.2.1 dX8_ofMachine_26 rfl (lv_at hl 1 rfl) ?_
        refine tw_cr w (va_runV (As := [.int x1]) (rest := []) X (ct_X0_at l D g hT _ σ1 (tw_R g a0 0) (tw_t_8_0 hT h0) x1 _ h) (cwV 1 X.2.2.2.2 gX8_ofMachine_X0_at rfl rfl rfl (by decide +kernel) ⟨Nat.le_of_ble_eq_true rfl, Nat.le_of_ble_eq_true rfl⟩) (tw_preV hK w (tw_t_8_0 hT h0) (by decide) rfl [.int x1]) rfl rfl hl.1 rfl (lv_room (Nat.le_of_ble_eq_true rfl)) dX8_ofMachine_27 ⟨Nat.zero_le _, Nat.zero_le _⟩) (fun y7 σ6 H locs hy7 h w => ?_)
        refine lv_astore_n (lv' := [(3, .ref y7), (0, .ref a0), (1, .int x1), (2, .int x2)]) X.1 X.2.1 dX8_ofMachine_30 rfl hl (by decide) rfl (fun ls hl => ?_)
        refine lv_iload_n X.1 X.2.1 dX8_ofMachine_31 rfl (lv_at hl 3 rfl) ?_
        refine lv_iconst (v := 2) X.1 X.2.1 dX8_ofMachine_32 (by decide) ?_
        refine lv_icmp_ge (tgt := 52) X.1 X.2.1 dX8_ofMachine_33 (by decide) (fun c8 => ?_) (fun c8 => ?_)
        · have h := h.1 c8
          refine lv_aload_n X.1 X.2.1 dX8_ofMachine_52 rfl (lv_at hl 1 rfl) ?_
          refine lv_iload_n X.1 X.2.1 dX8_ofMachine_53 rfl (lv_at hl 2 rfl) ?_
          refine tw_cr w (va_runV (As := [.int x1]) (rest := []) X (ct_X8_oneWayFor l D g hT _ σ6 a0 h0 x1 _ h) (cwV 1 X.2.2.2.2 gX8_ofMachine_X8_oneWayFor rfl rfl rfl (by decide +kernel) ⟨Nat.le_of_ble_eq_true rfl, Nat.le_of_ble_eq_true rfl⟩) (tw_preV hK w h0 (by decide) rfl [.int x1]) rfl rfl hl.1 rfl (lv_room (Nat.le_of_ble_eq_true rfl)) dX8_ofMachine_54 ⟨Nat.zero_le _, Nat.zero_le _⟩) (fun y10 σ9 H locs hy10 h w => ?_)
          refine lv_astore (lv' := [(4, .ref y10), (3, .ref y7), (0, .ref a0), (1, .int x1), (2, .int x2)]) X.1 X.2.1 dX8_ofMachine_57 hl (by decide) rfl (fun ls hl => ?_)
          have hl := lv_sub (l' := [(4, .ref y10), (2, .int x2)]) hl [0, 4] rfl
          refine lv_aload X.1 X.2.1 dX8_ofMachine_59 (lv_at hl 0 rfl) ?_
          refine tw_ci w (va_runV (As := []) (rest := []) X (ct_X5_isTooMany l D g hT _ σ9 y10 hy10 _ h) (cwV 0 X.2.2.2.2 gX8_ofMachine_X5_isTooMany rfl rfl rfl (by decide +kernel) ⟨Nat.le_of_ble_eq_true rfl, Nat.le_of_ble_eq_true rfl⟩) (tw_preV hK w hy10 (by decide) rfl []) rfl rfl hl.1 rfl (lv_room (Nat.le_of_ble_eq_true rfl)) dX8_ofMachine_61 ⟨Nat.zero_le _, Nat.zero_le _⟩) (fun r12 σ11 H locs h w => ?_)
          refine lv_if_eq (tgt := 70) X.1 X.2.1 dX8_ofMachine_64 (by decide) (fun c13 => ?_) (fun c13 => ?_)
          · have h := h.1 c13
            refine lv_iload_n X.1 X.2.1 dX8_ofMachine_70 rfl (lv_at hl 1 rfl) ?_
            by_cases c14 : x2 = 2
            · have h := h.1 c14
              refine lv_tableIn (off := 25) (tgt := 96) X.1 X.2.1 dX8_ofMachine_71 (by rw [c14] <;> decide) (by rw [c14] <;> decide) (by rw [c14] <;> decide) (by decide) ?_
              refine lv_aload X.1 X.2.1 dX8_ofMachine_96 (lv_at hl 0 rfl) ?_
              refine tw_ci w (va_runV (As := []) (rest := []) X (ct_X5_size l D g hT _ σ11 y10 hy10 _ h) (cwV 0 X.2.2.2.2 gX8_ofMachine_X5_size rfl rfl rfl (by decide +kernel) ⟨Nat.le_of_ble_eq_true rfl, Nat.le_of_ble_eq_true rfl⟩) (tw_preV hK w hy10 (by decide) rfl []) rfl rfl hl.1 rfl (lv_room (Nat.le_of_ble_eq_true rfl)) dX8_ofMachine_98 ⟨Nat.zero_le _, Nat.zero_le _⟩) (fun r16 σ15 H locs h w => ?_)
              exact tw_iret X hr hlk w h dX8_ofMachine_101
            · have h := h.2 c14
              by_cases c17 : x2 = 3
              · have h := h.1 c17
                refine lv_tableIn (off := 31) (tgt := 102) X.1 X.2.1 dX8_ofMachine_71 (by rw [c17] <;> decide) (by rw [c17] <;> decide) (by rw [c17] <;> decide) (by decide) ?_
                refine lv_aload X.1 X.2.1 dX8_ofMachine_102 (lv_at hl 0 rfl) ?_
                refine tw_ci w (va_runV (As := []) (rest := []) X (ct_X5_leastSize l D g hT _ σ11 y10 hy10 _ h) (cwV 0 X.2.2.2.2 gX8_ofMachine_X5_leastSize rfl rfl rfl (by decide +kernel) ⟨Nat.le_of_ble_eq_true rfl, Nat.le_of_ble_eq_true rfl⟩) (tw_preV hK w hy10 (by decide) rfl []) rfl rfl hl.1 rfl (lv_room (Nat.le_of_ble_eq_true rfl)) dX8_ofMachine_104 ⟨Nat.zero_le _, Nat.zero_le _⟩) (fun r19 σ18 H locs h w => ?_)
                exact tw_iret X hr hlk w h dX8_ofMachine_107
              · have h := h.2 c17
                by_cases c20 : x2 = 4
                · have h := h.1 c20
                  refine lv_tableIn (off := 37) (tgt := 108) X.1 X.2.1 dX8_ofMachine_71 (by rw [c20] <;> decide) (by rw [c20] <;> decide) (by rw [c20] <;> decide) (by decide) ?_
                  refine lv_aload X.1 X.2.1 dX8_ofMachine_108 (lv_at hl 0 rfl) ?_
                  refine lv_iconst (v := 1) X.1 X.2.1 dX8_ofMachine_110 (by decide) ?_
                  refine tw_ci w (va_runV (As := [.int (1 : Int32)]) (rest := []) X (ct_X5_firstWord l D g hT _ σ11 y10 hy10 (1 : Int32) _ h) (cwV 1 X.2.2.2.2 gX8_ofMachine_X5_firstWord rfl rfl rfl (by decide +kernel) ⟨Nat.le_of_ble_eq_true rfl, Nat.le_of_ble_eq_true rfl⟩) (tw_preV hK w hy10 (by decide) rfl [.int (1 : Int32)]) rfl rfl hl.1 rfl (lv_room (Nat.le_of_ble_eq_true rfl)) dX8_ofMachine_111 ⟨Nat.zero_le _, Nat.zero_le _⟩) (fun r22 σ21 H locs h w => ?_)
                  exact tw_iret X hr hlk w h dX8_ofMachine_114
                · have h := h.2 c20
                  have ec14 := lv_neT (a := 2) c14 rfl
                  have ec17 := lv_neT (a := 3) c17 rfl
                  have ec20 := lv_neT (a := 4) c20 rfl
                  refine lv_tableOut (tgt := 115) X.1 X.2.1 dX8_ofMachine_71 (by omega) (by decide) ?_
                  refine lv_aload X.1 X.2.1 dX8_ofMachine_115 (lv_at hl 0 rfl) ?_
                  refine lv_iconst (v := 0) X.1 X.2.1 dX8_ofMachine_117 (by decide) ?_
                  refine tw_ci w (va_runV (As := [.int (0 : Int32)]) (rest := []) X (ct_X5_firstWord l D g hT _ σ11 y10 hy10 (0 : Int32) _ h) (cwV 1 X.2.2.2.2 gX8_ofMachine_X5_firstWord rfl rfl rfl (by decide +kernel) ⟨Nat.le_of_ble_eq_true rfl, Nat.le_of_ble_eq_true rfl⟩) (tw_preV hK w hy10 (by decide) rfl [.int (0 : Int32)]) rfl rfl hl.1 rfl (lv_room (Nat.le_of_ble_eq_true rfl)) dX8_ofMachine_118 ⟨Nat.zero_le _, Nat.zero_le _⟩) (fun r24 σ23 H locs h w => ?_)
                  exact tw_iret X hr hlk w h dX8_ofMachine_121
          · have h := h.2 c13
            refine lv_ldc (own := RX8) (v := -1000000004) X.1 X.2.1 X.2.2.2.1 (X.2.2.2.2 _ (List.mem_of_getElem? (i := 4) rfl)) dX8_ofMachine_67 ?_
            exact tw_iret X hr hlk w h dX8_ofMachine_69
        · have h := h.2 c8
          refine lv_iload_n X.1 X.2.1 dX8_ofMachine_36 rfl (lv_at hl 3 rfl) ?_
          refine lv_if_ne (tgt := 47) X.1 X.2.1 dX8_ofMachine_37 (by decide) (fun c25 => ?_) (fun c25 => ?_)
          · have h := h.1 c25
            refine lv_aload_n X.1 X.2.1 dX8_ofMachine_47 rfl (lv_at hl 0 rfl) ?_
            refine tw_ci w (va_runV (As := []) (rest := []) X (ct_X3_countMoves l D g hT _ σ6 y7 hy7 _ h) (cwV 0 X.2.2.2.2 gX8_ofMachine_X3_countMoves rfl rfl rfl (by decide +kernel) ⟨Nat.le_of_ble_eq_true rfl, Nat.le_of_ble_eq_true rfl⟩) (tw_preV hK w hy7 (by decide) rfl []) rfl rfl hl.1 rfl (lv_room (Nat.le_of_ble_eq_true rfl)) dX8_ofMachine_48 ⟨Nat.zero_le _, Nat.zero_le _⟩) (fun r27 σ26 H locs h w => ?_)
            exact tw_iret X hr hlk w h dX8_ofMachine_51
          · have h := h.2 c25
            refine lv_aload_n X.1 X.2.1 dX8_ofMachine_40 rfl (lv_at hl 0 rfl) ?_
            refine tw_ci w (va_runV (As := []) (rest := []) X (ct_X3_size l D g hT _ σ6 y7 hy7 _ h) (cwV 0 X.2.2.2.2 gX8_ofMachine_X3_size rfl rfl rfl (by decide +kernel) ⟨Nat.le_of_ble_eq_true rfl, Nat.le_of_ble_eq_true rfl⟩) (tw_preV hK w hy7 (by decide) rfl []) rfl rfl hl.1 rfl (lv_room (Nat.le_of_ble_eq_true rfl)) dX8_ofMachine_41 ⟨Nat.zero_le _, Nat.zero_le _⟩) (fun r29 σ28 H locs h w => ?_)
            refine lv_goto (tgt := 51) X.1 X.2.1 dX8_ofMachine_44 (by decide) ?_
            exact tw_iret X hr hlk w h dX8_ofMachine_51
      · have h := h.2 c5
        refine lv_ldc (own := RX8) (v := -1000000002) X.1 X.2.1 X.2.2.2.1 (X.2.2.2.2 _ (List.mem_of_getElem? (i := 2) rfl)) dX8_ofMachine_19 ?_
        exact tw_iret X hr hlk w h dX8_ofMachine_21
  · have h := h.2 c3
    refine lv_ldc (own := RX8) (v := -1000000001) X.1 X.2.1 X.2.2.2.1 (X.2.2.2.2 _ (List.mem_of_getElem? (i := 1) rfl)) dX8_ofMachine_7 ?_
    exact tw_iret X hr hlk w h dX8_ofMachine_9

abbrev RM_X8_oneWay : Room := { frames := 6, cells := 0, slots := 0, locals := 138 }
theorem iw_X8_oneWay_8 : ∀ w ∈ wsX80, w ∈ wsX8_oneWay := fun w h => List.mem_cons_of_mem _ (List.mem_append_left _ (List.mem_append_left _ (List.mem_append_left _ (List.mem_append_right _ (h)))))
def wp_X8_oneWay (g : tw_G) (σ : tw_S) (a0 : Nat) (x1 : Int32) (x2 : Int32) (x3 : Int32) (Q : Int32 → tw_S → Prop) : Prop := wp_X8_isMachine g σ x1 (fun r2 σ1 => ((¬ r2 = 0) → wp_X8_oneWayFor g σ1 a0 x1 (fun y5 σ4 => wp_X5_isTooMany g σ4 y5 (fun r7 σ6 => ((r7 = 0) → wp_X5_hasState g σ6 y5 x2 (fun r10 σ9 => ((¬ r10 = 0) → ((x3 < 0) → Q (-1000000002 : Int32) σ9) ∧ (¬ (x3 < 0) → wp_X0_at g σ9 (tw_R g a0 0) x1 (fun y14 σ13 => wp_X3_size g σ13 y14 (fun r16 σ15 => ((x3 < ((4 : Int32) + r16)) → (((2 : Int32) ≤ x3) → ((¬ x3 = (2 : Int32)) → ((¬ x3 = (3 : Int32)) → wp_X5_comesBack g σ15 y5 x2 (x3 - (4 : Int32)) (fun r22 σ21 => Q r22 σ21)) ∧ ((x3 = (3 : Int32)) → wp_X5_firstOff g σ15 y5 x2 (fun r24 σ23 => Q r24 σ23))) ∧ ((x3 = (2 : Int32)) → wp_X5_isGood g σ15 y5 x2 (fun r26 σ25 => ((r26 = 0) → Q (0 : Int32) σ25) ∧ (¬ (r26 = 0) → Q (1 : Int32) σ25)))) ∧ (¬ ((2 : Int32) ≤ x3) → wp_X5_next g σ15 y5 x2 x3 (fun r29 σ28 => Q r29 σ28))) ∧ (¬ (x3 < ((4 : Int32) + r16)) → Q (-1000000002 : Int32) σ15))))) ∧ ((r10 = 0) → Q (-1000000001 : Int32) σ9))) ∧ (¬ (r7 = 0) → Q (-1000000004 : Int32) σ6)))) ∧ ((r2 = 0) → Q (-1000000001 : Int32) σ1))
set_option maxHeartbeats 4000000 in
set_option maxRecDepth 100000 in
theorem ct_X8_oneWay (l : Launch) (D : va_G) (g : tw_G) (hT : tw_T g) (sz : Nat) (σ : tw_S) (a0 : Nat) (h0 : tw_is g 8 a0) (x1 : Int32) (x2 : Int32) (x3 : Int32) (Q : Int32 → tw_S → Prop) (h : wp_X8_oneWay g σ a0 x1 x2 x3 Q) : tw_Mi l yX8_oneWay wsX8_oneWay RM_X8_oneWay D g sz σ [.ref a0, .int x1, .int x2, .int x3] Q := by
  refine Met.ofW (cc := cX8_oneWay) (maxL := 5) (ret := (some .int)) (by decide) rfl ?_
  intro p e s m args below meth c s₁ B hml hv
  obtain ⟨rfl, hsz, hP, hK, hD0⟩ := hv
  subst hsz
  have hr := B.returns
  have hlk := B.notSynchronized
  have X : CallFix p m c cX8_oneWay 5 s _ wsX8_oneWay RX8 := ⟨B.exec, B.bytes, hml, findClass_of_methodNamed B.named, atoms_spec (ws := wsX8_oneWay) B.pre⟩
  have w := tw_w0 hP hD0
  have hl := lv_entry ([.ref a0, .int x1, .int x2, .int x3]) (n := 5) (Nat.le_of_ble_eq_true rfl)
  rw [lg_entry_eq]
  generalize (lg_sl ([.ref a0, .int x1, .int x2, .int x3]) ++ List.replicate (5 - (lg_sl ([.ref a0, .int x1, .int x2, .int x3])).length) Slot.unset).toArray = ls at hl ⊢
  have hl : lv_has ls 5 [(0, .ref a0), (1, .int x1), (2, .int x2), (3, .int x3)] := hl
  unfold wp_X8_oneWay at h
  refine lv_iload_n X.1 X.2.1 dX8_oneWay_0 rfl (lv_at hl 1 rfl) ?_
  refine tw_ci w (va_runS (As := [.int x1]) (rest := []) X (ct_X8_isMachine l D g hT _ σ x1 _ h) (va_cwS 1 X.2.2.2.2 gX8_oneWay_X8_isMachine rfl rfl rfl (by decide +kernel) ⟨Nat.le_of_ble_eq_true rfl, Nat.le_of_ble_eq_true rfl⟩) (tw_pre hK w [.int x1]) rfl rfl hl.1 rfl (lv_room (Nat.le_of_ble_eq_true rfl)) dX8_oneWay_1 ⟨Nat.zero_le _, Nat.zero_le _⟩) (fun r2 σ1 H locs h w => ?_)
  refine lv_if_ne (tgt := 10) X.1 X.2.1 dX8_oneWay_4 (by decide) (fun c3 => ?_) (fun c3 => ?_)
  · have h := h.1 c3
    refine lv_aload_n X.1 X.2.1 dX8_oneWay_10 rfl (lv_at hl 0 rfl) ?_
    refine lv_iload_n X.1 X.2.1 dX8_oneWay_11 rfl (lv_at hl 1 rfl) ?_
    refine tw_cr w (va_runV (As := [.int x1]) (rest := []) X (ct_X8_oneWayFor l D g hT _ σ1 a0 h0 x1 _ h) (cwV 1 X.2.2.2.2 gX8_oneWay_X8_oneWayFor rfl rfl rfl (by decide +kernel) ⟨Nat.le_of_ble_eq_true rfl, Nat.le_of_ble_eq_true rfl⟩) (tw_preV hK w h0 (by decide) rfl [.int x1]) rfl rfl hl.1 rfl (lv_room (Nat.le_of_ble_eq_true rfl)) dX8_oneWay_12 ⟨Nat.zero_le _, Nat.zero_le _⟩) (fun y5 σ4 H locs hy5 h w => ?_)
    refine lv_astore (lv' := [(4, .ref y5), (0, .ref a0), (1, .int x1), (2, .int x2), (3, .int x3)]) X.1 X.2.1 dX8_oneWay_15 hl (by decide) rfl (fun ls hl => ?_)
    refine lv_aload X.1 X.2.1 dX8_oneWay_17 (lv_at hl 0 rfl) ?_
    refine tw_ci w (va_runV (As := []) (rest := []) X (ct_X5_isTooMany l D g hT _ σ4 y5 hy5 _ h) (cwV 0 X.2.2.2.2 gX8_oneWay_X5_isTooMany rfl rfl rfl (by decide +kernel) ⟨Nat.le_of_ble_eq_true rfl, Nat.le_of_ble_eq_true rfl⟩) (tw_preV hK w hy5 (by decide) rfl []) rfl rfl hl.1 rfl (lv_room (Nat.le_of_ble_eq_true rfl)) dX8_oneWay_19 ⟨Nat.zero_le _, Nat.zero_le _⟩) (fun r7 σ6 H locs h w => ?_)
    refine lv_if_eq (tgt := 28) X.1 X.2.1 dX8_oneWay_22 (by decide) (fun c8 => ?_) (fun c8 => ?_)
    · have h := h.1 c8
      refine lv_aload X.1 X.2.1 dX8_oneWay_28 (lv_at hl 0 rfl) ?_
      refine lv_iload_n X.1 X.2.1 dX8_oneWay_30 rfl (lv_at hl 3 rfl) ?_
      refine tw_ci w (va_runV (As := [.int x2]) (rest := []) X (ct_X5_hasState l D g hT _ σ6 y5 hy5 x2 _ h) (cwV 1 X.2.2.2.2 gX8_oneWay_X5_hasState rfl rfl rfl (by decide +kernel) ⟨Nat.le_of_ble_eq_true rfl, Nat.le_of_ble_eq_true rfl⟩) (tw_preV hK w hy5 (by decide) rfl [.int x2]) rfl rfl hl.1 rfl (lv_room (Nat.le_of_ble_eq_true rfl)) dX8_oneWay_31 ⟨Nat.zero_le _, Nat.zero_le _⟩) (fun r10 σ9 H locs h w => ?_)
      refine lv_if_ne (tgt := 40) X.1 X.2.1 dX8_oneWay_34 (by decide) (fun c11 => ?_) (fun c11 => ?_)
      · have h := h.1 c11
        refine lv_iload_n X.1 X.2.1 dX8_oneWay_40 rfl (lv_at hl 4 rfl) ?_
        refine lv_if_lt (tgt := 61) X.1 X.2.1 dX8_oneWay_41 (by decide) (fun c12 => ?_) (fun c12 => ?_)
        · have h := h.1 c12
          refine lv_ldc (own := RX8) (v := -1000000002) X.1 X.2.1 X.2.2.2.1 (X.2.2.2.2 _ (List.mem_of_getElem? (i := 4) rfl)) dX8_oneWay_61 ?_
          exact tw_iret X hr hlk w h dX8_oneWay_63
        · have h := h.2 c12
          refine lv_iload_n X.1 X.2.1 dX8_oneWay_44 rfl (lv_at hl 4 rfl) ?_
          refine lv_iconst (v := 4) X.1 X.2.1 dX8_oneWay_45 (by decide) ?_
          refine lv_aload_n X.1 X.2.1 dX8_oneWay_46 rfl (lv_at hl 1 rfl) ?_
          refine tw_get X hK w 8 iw_X8_oneWay_8 h0 (by decide) rfl 0 (by decide) (List.mem_of_getElem? (i := 3) rfl) rfl dX8_oneWay_47 ?_
          refine lv_iload_n X.1 X.2.1 dX8_oneWay_50 rfl (lv_at hl 2 rfl) ?_
          refine tw_cr w (va_runV (As := [.int x1]) (rest := [.int (4 : Int32), .int x3]) X (ct_X0_at l D g hT _ σ9 (tw_R g a0 0) (tw_t_8_0 hT h0) x1 _ h) (cwV 1 X.2.2.2.2 gX8_oneWay_X0_at rfl rfl rfl (by decide +kernel) ⟨Nat.le_of_ble_eq_true rfl, Nat.le_of_ble_eq_true rfl⟩) (tw_preV hK w (tw_t_8_0 hT h0) (by decide) rfl [.int x1]) rfl rfl hl.1 rfl (lv_room (Nat.le_of_ble_eq_true rfl)) dX8_oneWay_51 ⟨Nat.zero_le _, Nat.zero_le _⟩) (fun y14 σ13 H locs hy14 h w => ?_)
          refine tw_ci w (va_runV (As := []) (rest := [.int (4 : Int32), .int x3]) X (ct_X3_size l D g hT _ σ13 y14 hy14 _ h) (cwV 0 X.2.2.2.2 gX8_oneWay_X3_size rfl rfl rfl (by decide +kernel) ⟨Nat.le_of_ble_eq_true rfl, Nat.le_of_ble_eq_true rfl⟩) (tw_preV hK w hy14 (by decide) rfl []) rfl rfl hl.1 rfl (lv_room (Nat.le_of_ble_eq_true rfl)) dX8_oneWay_54 ⟨Nat.zero_le _, Nat.zero_le _⟩) (fun r16 σ15 H locs h w => ?_)
          refine lv_iadd X.1 X.2.1 dX8_oneWay_57 ?_
          refine lv_icmp_lt (tgt := 64) X.1 X.2.1 dX8_oneWay_58 (by decide) (fun c17 => ?_) (fun c17 => ?_)
          · have h := h.1 c17
            refine lv_iload_n X.1 X.2.1 dX8_oneWay_64 rfl (lv_at hl 4 rfl) ?_
            refine lv_iconst (v := 2) X.1 X.2.1 dX8_oneWay_65 (by decide) ?_
            refine lv_icmp_ge (tgt := 77) X.1 X.2.1 dX8_oneWay_66 (by decide) (fun c18 => ?_) (fun c18 => ?_)
            · have h := h.1 c18
              refine lv_iload_n X.1 X.2.1 dX8_oneWay_77 rfl (lv_at hl 4 rfl) ?_
              refine lv_iconst (v := 2) X.1 X.2.1 dX8_oneWay_78 (by decide) ?_
              refine lv_icmp_ne (tgt := 97) X.1 X.2.1 dX8_oneWay_79 (by decide) (fun c19 => ?_) (fun c19 => ?_)
              · have h := h.1 c19
                refine lv_iload_n X.1 X.2.1 dX8_oneWay_97 rfl (lv_at hl 4 rfl) ?_
                refine lv_iconst (v := 3) X.1 X.2.1 dX8_oneWay_98 (by decide) ?_
                refine lv_icmp_ne (tgt := 111) X.1 X.2.1 dX8_oneWay_99 (by decide) (fun c20 => ?_) (fun c20 => ?_)
                · have h := h.1 c20
                  refine lv_aload X.1 X.2.1 dX8_oneWay_111 (lv_at hl 0 rfl) ?_
                  refine lv_iload_n X.1 X.2.1 dX8_oneWay_113 rfl (lv_at hl 3 rfl) ?_
                  refine lv_iload_n X.1 X.2.1 dX8_oneWay_114 rfl (lv_at hl 4 rfl) ?_
                  refine lv_iconst (v := 4) X.1 X.2.1 dX8_oneWay_115 (by decide) ?_
                  refine lv_isub X.1 X.2.1 dX8_oneWay_116 ?_
                  refine tw_ci w (va_runV (As := [.int x2, .int (x3 - (4 : Int32))]) (rest := []) X (ct_X5_comesBack l D g hT _ σ15 y5 hy5 x2 (x3 - (4 : Int32)) _ h) (cwV 2 X.2.2.2.2 gX8_oneWay_X5_comesBack rfl rfl rfl (by decide +kernel) ⟨Nat.le_of_ble_eq_true rfl, Nat.le_of_ble_eq_true rfl⟩) (tw_preV hK w hy5 (by decide) rfl [.int x2, .int (x3 - (4 : Int32))]) rfl rfl hl.1 rfl (lv_room (Nat.le_of_ble_eq_true rfl)) dX8_oneWay_117 ⟨Nat.zero_le _, Nat.zero_le _⟩) (fun r22 σ21 H locs h w => ?_)
                  exact tw_iret X hr hlk w h dX8_oneWay_120
                · have h := h.2 c20
                  refine lv_aload X.1 X.2.1 dX8_oneWay_102 (lv_at hl 0 rfl) ?_
                  refine lv_iload_n X.1 X.2.1 dX8_oneWay_104 rfl (lv_at hl 3 rfl) ?_
                  refine tw_ci w (va_runV (As := [.int x2]) (rest := []) X (ct_X5_firstOff l D g hT _ σ15 y5 hy5 x2 _ h) (cwV 1 X.2.2.2.2 gX8_oneWay_X5_firstOff rfl rfl rfl (by decide +kernel) ⟨Nat.le_of_ble_eq_true rfl, Nat.le_of_ble_eq_true rfl⟩) (tw_preV hK w hy5 (by decide) rfl [.int x2]) rfl rfl hl.1 rfl (lv_room (Nat.le_of_ble_eq_true rfl)) dX8_oneWay_105 ⟨Nat.zero_le _, Nat.zero_le _⟩) (fun r24 σ23 H locs h w => ?_)
                  refine lv_goto (tgt := 120) X.1 X.2.1 dX8_oneWay_108 (by decide) ?_
                  exact tw_iret X hr hlk w h dX8_oneWay_120
              · have h := h.2 c19
                refine lv_aload X.1 X.2.1 dX8_oneWay_82 (lv_at hl 0 rfl) ?_
                refine lv_iload_n X.1 X.2.1 dX8_oneWay_84 rfl (lv_at hl 3 rfl) ?_
                refine tw_ci w (va_runV (As := [.int x2]) (rest := []) X (ct_X5_isGood l D g hT _ σ15 y5 hy5 x2 _ h) (cwV 1 X.2.2.2.2 gX8_oneWay_X5_isGood rfl rfl rfl (by decide +kernel) ⟨Nat.le_of_ble_eq_true rfl, Nat.le_of_ble_eq_true rfl⟩) (tw_preV hK w hy5 (by decide) rfl [.int x2]) rfl rfl hl.1 rfl (lv_room (Nat.le_of_ble_eq_true rfl)) dX8_oneWay_85 ⟨Nat.zero_le _, Nat.zero_le _⟩) (fun r26 σ25 H locs h w => ?_)
                refine lv_if_eq (tgt := 95) X.1 X.2.1 dX8_oneWay_88 (by decide) (fun c27 => ?_) (fun c27 => ?_)
                · have h := h.1 c27
                  refine lv_iconst (v := 0) X.1 X.2.1 dX8_oneWay_95 (by decide) ?_
                  exact tw_iret X hr hlk w h dX8_oneWay_96
                · have h := h.2 c27
                  refine lv_iconst (v := 1) X.1 X.2.1 dX8_oneWay_91 (by decide) ?_
                  refine lv_goto (tgt := 96) X.1 X.2.1 dX8_oneWay_92 (by decide) ?_
                  exact tw_iret X hr hlk w h dX8_oneWay_96
            · have h := h.2 c18
              refine lv_aload X.1 X.2.1 dX8_oneWay_69 (lv_at hl 0 rfl) ?_
              refine lv_iload_n X.1 X.2.1 dX8_oneWay_71 rfl (lv_at hl 3 rfl) ?_
              refine lv_iload_n X.1 X.2.1 dX8_oneWay_72 rfl (lv_at hl 4 rfl) ?_
              refine tw_ci w (va_runV (As := [.int x2, .int x3]) (rest := []) X (ct_X5_next l D g hT _ σ15 y5 hy5 x2 x3 _ h) (cwV 2 X.2.2.2.2 gX8_oneWay_X5_next rfl rfl rfl (by decide +kernel) ⟨Nat.le_of_ble_eq_true rfl, Nat.le_of_ble_eq_true rfl⟩) (tw_preV hK w hy5 (by decide) rfl [.int x2, .int x3]) rfl rfl hl.1 rfl (lv_room (Nat.le_of_ble_eq_true rfl)) dX8_oneWay_73 ⟨Nat.zero_le _, Nat.zero_le _⟩) (fun r29 σ28 H locs h w => ?_)
              exact tw_iret X hr hlk w h dX8_oneWay_76
          · have h := h.2 c17
            refine lv_ldc (own := RX8) (v := -1000000002) X.1 X.2.1 X.2.2.2.1 (X.2.2.2.2 _ (List.mem_of_getElem? (i := 4) rfl)) dX8_oneWay_61 ?_
            exact tw_iret X hr hlk w h dX8_oneWay_63
      · have h := h.2 c11
        refine lv_ldc (own := RX8) (v := -1000000001) X.1 X.2.1 X.2.2.2.1 (X.2.2.2.2 _ (List.mem_of_getElem? (i := 1) rfl)) dX8_oneWay_37 ?_
        exact tw_iret X hr hlk w h dX8_oneWay_39
    · have h := h.2 c8
      refine lv_ldc (own := RX8) (v := -1000000004) X.1 X.2.1 X.2.2.2.1 (X.2.2.2.2 _ (List.mem_of_getElem? (i := 2) rfl)) dX8_oneWay_25 ?_
      exact tw_iret X hr hlk w h dX8_oneWay_27
  · have h := h.2 c3
    refine lv_ldc (own := RX8) (v := -1000000001) X.1 X.2.1 X.2.2.2.1 (X.2.2.2.2 _ (List.mem_of_getElem? (i := 1) rfl)) dX8_oneWay_7 ?_
    exact tw_iret X hr hlk w h dX8_oneWay_9

abbrev RM_X8_taken : Room := { frames := 6, cells := 0, slots := 0, locals := 138 }
def wp_X8_taken (g : tw_G) (σ : tw_S) (a0 : Nat) (x1 : Int32) (x2 : Int32) (Q : Int32 → tw_S → Prop) : Prop := wp_X8_isMachine g σ x1 (fun r2 σ1 => ((¬ r2 = 0) → ((x2 < 0) → Q (-1000000002 : Int32) σ1) ∧ (¬ (x2 < 0) → ((x2 ≤ (24 : Int32)) → wp_X8_oneWayFor g σ1 a0 x1 (fun y7 σ6 => wp_X5_isTooMany g σ6 y7 (fun r9 σ8 => ((r9 = 0) → wp_X5_countWords g σ8 y7 x2 (fun r12 σ11 => Q r12 σ11)) ∧ (¬ (r9 = 0) → Q (-1000000004 : Int32) σ8)))) ∧ (¬ (x2 ≤ (24 : Int32)) → Q (-1000000002 : Int32) σ1))) ∧ ((r2 = 0) → Q (-1000000001 : Int32) σ1))
set_option maxHeartbeats 4000000 in
set_option maxRecDepth 100000 in
theorem ct_X8_taken (l : Launch) (D : va_G) (g : tw_G) (hT : tw_T g) (sz : Nat) (σ : tw_S) (a0 : Nat) (h0 : tw_is g 8 a0) (x1 : Int32) (x2 : Int32) (Q : Int32 → tw_S → Prop) (h : wp_X8_taken g σ a0 x1 x2 Q) : tw_Mi l yX8_taken wsX8_taken RM_X8_taken D g sz σ [.ref a0, .int x1, .int x2] Q := by
  refine Met.ofW (cc := cX8_taken) (maxL := 4) (ret := (some .int)) (by decide) rfl ?_
  intro p e s m args below meth c s₁ B hml hv
  obtain ⟨rfl, hsz, hP, hK, hD0⟩ := hv
  subst hsz
  have hr := B.returns
  have hlk := B.notSynchronized
  have X : CallFix p m c cX8_taken 4 s _ wsX8_taken RX8 := ⟨B.exec, B.bytes, hml, findClass_of_methodNamed B.named, atoms_spec (ws := wsX8_taken) B.pre⟩
  have w := tw_w0 hP hD0
  have hl := lv_entry ([.ref a0, .int x1, .int x2]) (n := 4) (Nat.le_of_ble_eq_true rfl)
  rw [lg_entry_eq]
  generalize (lg_sl ([.ref a0, .int x1, .int x2]) ++ List.replicate (4 - (lg_sl ([.ref a0, .int x1, .int x2])).length) Slot.unset).toArray = ls at hl ⊢
  have hl : lv_has ls 4 [(0, .ref a0), (1, .int x1), (2, .int x2)] := hl
  unfold wp_X8_taken at h
  refine lv_iload_n X.1 X.2.1 dX8_taken_0 rfl (lv_at hl 1 rfl) ?_
  refine tw_ci w (va_runS (As := [.int x1]) (rest := []) X (ct_X8_isMachine l D g hT _ σ x1 _ h) (va_cwS 1 X.2.2.2.2 gX8_taken_X8_isMachine rfl rfl rfl (by decide +kernel) ⟨Nat.le_of_ble_eq_true rfl, Nat.le_of_ble_eq_true rfl⟩) (tw_pre hK w [.int x1]) rfl rfl hl.1 rfl (lv_room (Nat.le_of_ble_eq_true rfl)) dX8_taken_1 ⟨Nat.zero_le _, Nat.zero_le _⟩) (fun r2 σ1 H locs h w => ?_)
  refine lv_if_ne (tgt := 10) X.1 X.2.1 dX8_taken_4 (by decide) (fun c3 => ?_) (fun c3 => ?_)
  · have h := h.1 c3
    refine lv_iload_n X.1 X.2.1 dX8_taken_10 rfl (lv_at hl 2 rfl) ?_
    refine lv_if_lt (tgt := 20) X.1 X.2.1 dX8_taken_11 (by decide) (fun c4 => ?_) (fun c4 => ?_)
    · have h := h.1 c4
      refine lv_ldc (own := RX8) (v := -1000000002) X.1 X.2.1 X.2.2.2.1 (X.2.2.2.2 _ (List.mem_of_getElem? (i := 2) rfl)) dX8_taken_20 ?_
      exact tw_iret X hr hlk w h dX8_taken_22
    · have h := h.2 c4
      refine lv_iload_n X.1 X.2.1 dX8_taken_14 rfl (lv_at hl 2 rfl) ?_
      refine lv_bipush (v := 24) X.1 X.2.1 dX8_taken_15 (by decide) ?_
      refine lv_icmp_le (tgt := 23) X.1 X.2.1 dX8_taken_17 (by decide) (fun c5 => ?_) (fun c5 => ?_)
      · have h := h.1 c5
        refine lv_aload_n X.1 X.2.1 dX8_taken_23 rfl (lv_at hl 0 rfl) ?_
        refine lv_iload_n X.1 X.2.1 dX8_taken_24 rfl (lv_at hl 1 rfl) ?_
        refine tw_cr w (va_runV (As := [.int x1]) (rest := []) X (ct_X8_oneWayFor l D g hT _ σ1 a0 h0 x1 _ h) (cwV 1 X.2.2.2.2 gX8_taken_X8_oneWayFor rfl rfl rfl (by decide +kernel) ⟨Nat.le_of_ble_eq_true rfl, Nat.le_of_ble_eq_true rfl⟩) (tw_preV hK w h0 (by decide) rfl [.int x1]) rfl rfl hl.1 rfl (lv_room (Nat.le_of_ble_eq_true rfl)) dX8_taken_25 ⟨Nat.zero_le _, Nat.zero_le _⟩) (fun y7 σ6 H locs hy7 h w => ?_)
        refine lv_astore_n (lv' := [(3, .ref y7), (0, .ref a0), (1, .int x1), (2, .int x2)]) X.1 X.2.1 dX8_taken_28 rfl hl (by decide) rfl (fun ls hl => ?_)
        have hl := lv_sub (l' := [(3, .ref y7), (2, .int x2)]) hl [0, 3] rfl
        refine lv_aload_n X.1 X.2.1 dX8_taken_29 rfl (lv_at hl 0 rfl) ?_
        refine tw_ci w (va_runV (As := []) (rest := []) X (ct_X5_isTooMany l D g hT _ σ6 y7 hy7 _ h) (cwV 0 X.2.2.2.2 gX8_taken_X5_isTooMany rfl rfl rfl (by decide +kernel) ⟨Nat.le_of_ble_eq_true rfl, Nat.le_of_ble_eq_true rfl⟩) (tw_preV hK w hy7 (by decide) rfl []) rfl rfl hl.1 rfl (lv_room (Nat.le_of_ble_eq_true rfl)) dX8_taken_30 ⟨Nat.zero_le _, Nat.zero_le _⟩) (fun r9 σ8 H locs h w => ?_)
        refine lv_if_eq (tgt := 41) X.1 X.2.1 dX8_taken_33 (by decide) (fun c10 => ?_) (fun c10 => ?_)
        · have h := h.1 c10
          refine lv_aload_n X.1 X.2.1 dX8_taken_41 rfl (lv_at hl 0 rfl) ?_
          refine lv_iload_n X.1 X.2.1 dX8_taken_42 rfl (lv_at hl 1 rfl) ?_
          refine tw_ci w (va_runV (As := [.int x2]) (rest := []) X (ct_X5_countWords l D g hT _ σ8 y7 hy7 x2 _ h) (cwV 1 X.2.2.2.2 gX8_taken_X5_countWords rfl rfl rfl (by decide +kernel) ⟨Nat.le_of_ble_eq_true rfl, Nat.le_of_ble_eq_true rfl⟩) (tw_preV hK w hy7 (by decide) rfl [.int x2]) rfl rfl hl.1 rfl (lv_room (Nat.le_of_ble_eq_true rfl)) dX8_taken_43 ⟨Nat.zero_le _, Nat.zero_le _⟩) (fun r12 σ11 H locs h w => ?_)
          exact tw_iret X hr hlk w h dX8_taken_46
        · have h := h.2 c10
          refine lv_ldc (own := RX8) (v := -1000000004) X.1 X.2.1 X.2.2.2.1 (X.2.2.2.2 _ (List.mem_of_getElem? (i := 3) rfl)) dX8_taken_36 ?_
          refine lv_goto (tgt := 46) X.1 X.2.1 dX8_taken_38 (by decide) ?_
          exact tw_iret X hr hlk w h dX8_taken_46
      · have h := h.2 c5
        refine lv_ldc (own := RX8) (v := -1000000002) X.1 X.2.1 X.2.2.2.1 (X.2.2.2.2 _ (List.mem_of_getElem? (i := 2) rfl)) dX8_taken_20 ?_
        exact tw_iret X hr hlk w h dX8_taken_22
  · have h := h.2 c3
    refine lv_ldc (own := RX8) (v := -1000000001) X.1 X.2.1 X.2.2.2.1 (X.2.2.2.2 _ (List.mem_of_getElem? (i := 1) rfl)) dX8_taken_7 ?_
    exact tw_iret X hr hlk w h dX8_taken_9

abbrev RM_X8_first : Room := { frames := 6, cells := 0, slots := 0, locals := 138 }
def wp_X8_first (g : tw_G) (σ : tw_S) (a0 : Nat) (x1 : Int32) (Q : Int32 → tw_S → Prop) : Prop := ((x1 < 0) → Q (-1000000001 : Int32) σ) ∧ (¬ (x1 < 0) → ((x1 < (4 : Int32)) → wp_X8_firstByRule g σ a0 x1 (fun r4 σ3 => Q r4 σ3)) ∧ (¬ (x1 < (4 : Int32)) → Q (-1000000001 : Int32) σ))
set_option maxHeartbeats 4000000 in
set_option maxRecDepth 100000 in
theorem ct_X8_first (l : Launch) (D : va_G) (g : tw_G) (hT : tw_T g) (sz : Nat) (σ : tw_S) (a0 : Nat) (h0 : tw_is g 8 a0) (x1 : Int32) (Q : Int32 → tw_S → Prop) (h : wp_X8_first g σ a0 x1 Q) : tw_Mi l yX8_first wsX8_first RM_X8_first D g sz σ [.ref a0, .int x1] Q := by
  refine Met.ofW (cc := cX8_first) (maxL := 2) (ret := (some .int)) (by decide) rfl ?_
  intro p e s m args below meth c s₁ B hml hv
  obtain ⟨rfl, hsz, hP, hK, hD0⟩ := hv
  subst hsz
  have hr := B.returns
  have hlk := B.notSynchronized
  have X : CallFix p m c cX8_first 2 s _ wsX8_first RX8 := ⟨B.exec, B.bytes, hml, findClass_of_methodNamed B.named, atoms_spec (ws := wsX8_first) B.pre⟩
  have w := tw_w0 hP hD0
  have hl := lv_entry ([.ref a0, .int x1]) (n := 2) (Nat.le_of_ble_eq_true rfl)
  rw [lg_entry_eq]
  generalize (lg_sl ([.ref a0, .int x1]) ++ List.replicate (2 - (lg_sl ([.ref a0, .int x1])).length) Slot.unset).toArray = ls at hl ⊢
  have hl : lv_has ls 2 [(0, .ref a0), (1, .int x1)] := hl
  unfold wp_X8_first at h
  refine lv_iload_n X.1 X.2.1 dX8_first_0 rfl (lv_at hl 1 rfl) ?_
  refine lv_if_lt (tgt := 9) X.1 X.2.1 dX8_first_1 (by decide) (fun c1 => ?_) (fun c1 => ?_)
  · have h := h.1 c1
    refine lv_ldc (own := RX8) (v := -1000000001) X.1 X.2.1 X.2.2.2.1 (X.2.2.2.2 _ (List.mem_of_getElem? (i := 1) rfl)) dX8_first_9 ?_
    refine lv_goto (tgt := 19) X.1 X.2.1 dX8_first_11 (by decide) ?_
    exact tw_iret X hr hlk w h dX8_first_19
  · have h := h.2 c1
    refine lv_iload_n X.1 X.2.1 dX8_first_4 rfl (lv_at hl 1 rfl) ?_
    refine lv_iconst (v := 4) X.1 X.2.1 dX8_first_5 (by decide) ?_
    refine lv_icmp_lt (tgt := 14) X.1 X.2.1 dX8_first_6 (by decide) (fun c2 => ?_) (fun c2 => ?_)
    · have h := h.1 c2
      refine lv_aload_n X.1 X.2.1 dX8_first_14 rfl (lv_at hl 0 rfl) ?_
      refine lv_iload_n X.1 X.2.1 dX8_first_15 rfl (lv_at hl 1 rfl) ?_
      refine tw_ci w (va_runV (As := [.int x1]) (rest := []) X (ct_X8_firstByRule l D g hT _ σ a0 h0 x1 _ h) (cwV 1 X.2.2.2.2 gX8_first_X8_firstByRule rfl rfl rfl (by decide +kernel) ⟨Nat.le_of_ble_eq_true rfl, Nat.le_of_ble_eq_true rfl⟩) (tw_preV hK w h0 (by decide) rfl [.int x1]) rfl rfl hl.1 rfl (lv_room (Nat.le_of_ble_eq_true rfl)) dX8_first_16 ⟨Nat.zero_le _, Nat.zero_le _⟩) (fun r4 σ3 H locs h w => ?_)
      exact tw_iret X hr hlk w h dX8_first_19
    · have h := h.2 c2
      refine lv_ldc (own := RX8) (v := -1000000001) X.1 X.2.1 X.2.2.2.1 (X.2.2.2.2 _ (List.mem_of_getElem? (i := 1) rfl)) dX8_first_9 ?_
      refine lv_goto (tgt := 19) X.1 X.2.1 dX8_first_11 (by decide) ?_
      exact tw_iret X hr hlk w h dX8_first_19

abbrev RM_X8_isTakenBothWays : Room := { frames := 4, cells := 0, slots := 0, locals := 89 }
theorem iw_X8_isTakenBothWays_8 : ∀ w ∈ wsX80, w ∈ wsX8_isTakenBothWays := fun w h => List.mem_cons_of_mem _ (List.mem_append_left _ (List.mem_append_left _ (List.mem_append_left _ (List.mem_append_right _ (h)))))
def wp_X8_isTakenBothWays (g : tw_G) (σ : tw_S) (a0 : Nat) (a1 : Nat) (x2 : Int32) (Q : Int32 → tw_S → Prop) : Prop := wp_X7_become g σ (tw_R g a0 7) x2 (fun σ1 => wp_X1_follow g σ1 (tw_R g a0 8) a1 (tw_R g a0 7) (fun σ2 => wp_X1_isTaken g σ2 (tw_R g a0 8) (fun r4 σ3 => ((¬ r4 = 0) → wp_X7_turn g σ3 (tw_R g a0 7) (fun σ6 => wp_X1_follow g σ6 (tw_R g a0 8) a1 (tw_R g a0 7) (fun σ7 => wp_X1_isTaken g σ7 (tw_R g a0 8) (fun r9 σ8 => narrow .boolean (.int r9) = .int r9 ∧ Q r9 σ8)))) ∧ ((r4 = 0) → Q (0 : Int32) σ3))))
set_option maxHeartbeats 4000000 in
set_option maxRecDepth 100000 in
theorem ct_X8_isTakenBothWays (l : Launch) (D : va_G) (g : tw_G) (hT : tw_T g) (sz : Nat) (σ : tw_S) (a0 : Nat) (h0 : tw_is g 8 a0) (a1 : Nat) (h1 : tw_is g 3 a1) (x2 : Int32) (Q : Int32 → tw_S → Prop) (h : wp_X8_isTakenBothWays g σ a0 a1 x2 Q) : tw_Mi l yX8_isTakenBothWays wsX8_isTakenBothWays RM_X8_isTakenBothWays D g sz σ [.ref a0, .ref a1, .int x2] Q := by
  refine Met.ofW (cc := cX8_isTakenBothWays) (maxL := 3) (ret := (some .boolean)) (by decide) rfl ?_
  intro p e s m args below meth c s₁ B hml hv
  obtain ⟨rfl, hsz, hP, hK, hD0⟩ := hv
  subst hsz
  have hr := B.returns
  have hlk := B.notSynchronized
  have X : CallFix p m c cX8_isTakenBothWays 3 s _ wsX8_isTakenBothWays RX8 := ⟨B.exec, B.bytes, hml, findClass_of_methodNamed B.named, atoms_spec (ws := wsX8_isTakenBothWays) B.pre⟩
  have w := tw_w0 hP hD0
  have hl := lv_entry ([.ref a0, .ref a1, .int x2]) (n := 3) (Nat.le_of_ble_eq_true rfl)
  rw [lg_entry_eq]
  generalize (lg_sl ([.ref a0, .ref a1, .int x2]) ++ List.replicate (3 - (lg_sl ([.ref a0, .ref a1, .int x2])).length) Slot.unset).toArray = ls at hl ⊢
  have hl : lv_has ls 3 [(0, .ref a0), (1, .ref a1), (2, .int x2)] := hl
  unfold wp_X8_isTakenBothWays at h
  refine lv_aload_n X.1 X.2.1 dX8_isTakenBothWays_0 rfl (lv_at hl 0 rfl) ?_
  refine tw_get X hK w 8 iw_X8_isTakenBothWays_8 h0 (by decide) rfl 7 (by decide) (List.mem_of_getElem? (i := 1) rfl) rfl dX8_isTakenBothWays_1 ?_
  refine lv_iload_n X.1 X.2.1 dX8_isTakenBothWays_4 rfl (lv_at hl 2 rfl) ?_
  refine tw_cv w (va_runV (As := [.int x2]) (rest := []) X (ct_X7_become l D g hT _ σ (tw_R g a0 7) (tw_t_8_7 hT h0) x2 _ h) (cwV 1 X.2.2.2.2 gX8_isTakenBothWays_X7_become rfl rfl rfl (by decide +kernel) ⟨Nat.le_of_ble_eq_true rfl, Nat.le_of_ble_eq_true rfl⟩) (tw_preV hK w (tw_t_8_7 hT h0) (by decide) rfl [.int x2]) rfl rfl hl.1 rfl (lv_room (Nat.le_of_ble_eq_true rfl)) dX8_isTakenBothWays_5 ⟨Nat.zero_le _, Nat.zero_le _⟩) (fun σ1 H locs h w => ?_)
  refine lv_aload_n X.1 X.2.1 dX8_isTakenBothWays_8 rfl (lv_at hl 0 rfl) ?_
  refine tw_get X hK w 8 iw_X8_isTakenBothWays_8 h0 (by decide) rfl 8 (by decide) (List.mem_of_getElem? (i := 2) rfl) rfl dX8_isTakenBothWays_9 ?_
  refine lv_aload_n X.1 X.2.1 dX8_isTakenBothWays_12 rfl (lv_at hl 1 rfl) ?_
  refine lv_aload_n X.1 X.2.1 dX8_isTakenBothWays_13 rfl (lv_at hl 0 rfl) ?_
  refine tw_get X hK w 8 iw_X8_isTakenBothWays_8 h0 (by decide) rfl 7 (by decide) (List.mem_of_getElem? (i := 1) rfl) rfl dX8_isTakenBothWays_14 ?_
  refine tw_cv w (va_runV (As := [.ref a1, .ref (tw_R g a0 7)]) (rest := []) X (ct_X1_follow l D g hT _ σ1 (tw_R g a0 8) (tw_t_8_8 hT h0) a1 h1 (tw_R g a0 7) (tw_t_8_7 hT h0) _ h) (cwV 2 X.2.2.2.2 gX8_isTakenBothWays_X1_follow rfl rfl rfl (by decide +kernel) ⟨Nat.le_of_ble_eq_true rfl, Nat.le_of_ble_eq_true rfl⟩) (tw_preV hK w (tw_t_8_8 hT h0) (by decide) rfl [.ref a1, .ref (tw_R g a0 7)]) rfl rfl hl.1 rfl (lv_room (Nat.le_of_ble_eq_true rfl)) dX8_isTakenBothWays_17 ⟨Nat.zero_le _, Nat.zero_le _⟩) (fun σ2 H locs h w => ?_)
  refine lv_aload_n X.1 X.2.1 dX8_isTakenBothWays_20 rfl (lv_at hl 0 rfl) ?_
  refine tw_get X hK w 8 iw_X8_isTakenBothWays_8 h0 (by decide) rfl 8 (by decide) (List.mem_of_getElem? (i := 2) rfl) rfl dX8_isTakenBothWays_21 ?_
  refine tw_ci w (va_runV (As := []) (rest := []) X (ct_X1_isTaken l D g hT _ σ2 (tw_R g a0 8) (tw_t_8_8 hT h0) _ h) (cwV 0 X.2.2.2.2 gX8_isTakenBothWays_X1_isTaken rfl rfl rfl (by decide +kernel) ⟨Nat.le_of_ble_eq_true rfl, Nat.le_of_ble_eq_true rfl⟩) (tw_preV hK w (tw_t_8_8 hT h0) (by decide) rfl []) rfl rfl hl.1 rfl (lv_room (Nat.le_of_ble_eq_true rfl)) dX8_isTakenBothWays_24 ⟨Nat.zero_le _, Nat.zero_le _⟩) (fun r4 σ3 H locs h w => ?_)
  refine lv_if_ne (tgt := 32) X.1 X.2.1 dX8_isTakenBothWays_27 (by decide) (fun c5 => ?_) (fun c5 => ?_)
  · have h := h.1 c5
    refine lv_aload_n X.1 X.2.1 dX8_isTakenBothWays_32 rfl (lv_at hl 0 rfl) ?_
    refine tw_get X hK w 8 iw_X8_isTakenBothWays_8 h0 (by decide) rfl 7 (by decide) (List.mem_of_getElem? (i := 1) rfl) rfl dX8_isTakenBothWays_33 ?_
    refine tw_cv w (va_runV (As := []) (rest := []) X (ct_X7_turn l D g hT _ σ3 (tw_R g a0 7) (tw_t_8_7 hT h0) _ h) (cwV 0 X.2.2.2.2 gX8_isTakenBothWays_X7_turn rfl rfl rfl (by decide +kernel) ⟨Nat.le_of_ble_eq_true rfl, Nat.le_of_ble_eq_true rfl⟩) (tw_preV hK w (tw_t_8_7 hT h0) (by decide) rfl []) rfl rfl hl.1 rfl (lv_room (Nat.le_of_ble_eq_true rfl)) dX8_isTakenBothWays_36 ⟨Nat.zero_le _, Nat.zero_le _⟩) (fun σ6 H locs h w => ?_)
    refine lv_aload_n X.1 X.2.1 dX8_isTakenBothWays_39 rfl (lv_at hl 0 rfl) ?_
    refine tw_get X hK w 8 iw_X8_isTakenBothWays_8 h0 (by decide) rfl 8 (by decide) (List.mem_of_getElem? (i := 2) rfl) rfl dX8_isTakenBothWays_40 ?_
    refine lv_aload_n X.1 X.2.1 dX8_isTakenBothWays_43 rfl (lv_at hl 1 rfl) ?_
    refine lv_aload_n X.1 X.2.1 dX8_isTakenBothWays_44 rfl (lv_at hl 0 rfl) ?_
    refine tw_get X hK w 8 iw_X8_isTakenBothWays_8 h0 (by decide) rfl 7 (by decide) (List.mem_of_getElem? (i := 1) rfl) rfl dX8_isTakenBothWays_45 ?_
    refine tw_cv w (va_runV (As := [.ref a1, .ref (tw_R g a0 7)]) (rest := []) X (ct_X1_follow l D g hT _ σ6 (tw_R g a0 8) (tw_t_8_8 hT h0) a1 h1 (tw_R g a0 7) (tw_t_8_7 hT h0) _ h) (cwV 2 X.2.2.2.2 gX8_isTakenBothWays_X1_follow rfl rfl rfl (by decide +kernel) ⟨Nat.le_of_ble_eq_true rfl, Nat.le_of_ble_eq_true rfl⟩) (tw_preV hK w (tw_t_8_8 hT h0) (by decide) rfl [.ref a1, .ref (tw_R g a0 7)]) rfl rfl hl.1 rfl (lv_room (Nat.le_of_ble_eq_true rfl)) dX8_isTakenBothWays_48 ⟨Nat.zero_le _, Nat.zero_le _⟩) (fun σ7 H locs h w => ?_)
    refine lv_aload_n X.1 X.2.1 dX8_isTakenBothWays_51 rfl (lv_at hl 0 rfl) ?_
    refine tw_get X hK w 8 iw_X8_isTakenBothWays_8 h0 (by decide) rfl 8 (by decide) (List.mem_of_getElem? (i := 2) rfl) rfl dX8_isTakenBothWays_52 ?_
    refine tw_ci w (va_runV (As := []) (rest := []) X (ct_X1_isTaken l D g hT _ σ7 (tw_R g a0 8) (tw_t_8_8 hT h0) _ h) (cwV 0 X.2.2.2.2 gX8_isTakenBothWays_X1_isTaken rfl rfl rfl (by decide +kernel) ⟨Nat.le_of_ble_eq_true rfl, Nat.le_of_ble_eq_true rfl⟩) (tw_preV hK w (tw_t_8_8 hT h0) (by decide) rfl []) rfl rfl hl.1 rfl (lv_room (Nat.le_of_ble_eq_true rfl)) dX8_isTakenBothWays_55 ⟨Nat.zero_le _, Nat.zero_le _⟩) (fun r9 σ8 H locs h w => ?_)
    exact tw_zret X hr hlk w h.1 h.2 dX8_isTakenBothWays_58
  · have h := h.2 c5
    refine lv_iconst (v := 0) X.1 X.2.1 dX8_isTakenBothWays_30 (by decide) ?_
    exact tw_zret X hr hlk w (by decide) h dX8_isTakenBothWays_31

abbrev RM_X8_turned : Room := { frames := 5, cells := 0, slots := 0, locals := 111 }
theorem iw_X8_turned_8 : ∀ w ∈ wsX80, w ∈ wsX8_turned := fun w h => List.mem_cons_of_mem _ (List.mem_append_left _ (List.mem_append_left _ (List.mem_append_left _ (List.mem_append_left _ (List.mem_append_right _ (h))))))
def wl_X8_turned_30 (g : tw_G) (a0 : Nat) (x1 : Int32) (x2 : Int32) (Q : Int32 → tw_S → Prop) (k64 : Int32 → tw_S → Prop) : Nat → Int32 → Int32 → tw_S → Prop
  | 0, _, _, _ => False
  | n + 1, x3, x4, σ => ((((2 : Int32) <<< (x2 &&& 31)) ≤ x4) → k64 x3 σ) ∧ (¬ (((2 : Int32) <<< (x2 &&& 31)) ≤ x4) → wp_X0_at g σ (tw_R g a0 0) x1 (fun y9 σ8 => wp_X8_isTakenBothWays g σ8 a0 y9 x4 (fun r11 σ10 => ((r11 = 0) → wl_X8_turned_30 g a0 x1 x2 Q k64 n x3 (x4 + 1) σ10) ∧ (¬ (r11 = 0) → wl_X8_turned_30 g a0 x1 x2 Q k64 n (x3 + 1) (x4 + 1) σ10))))
def wp_X8_turned (g : tw_G) (σ : tw_S) (a0 : Nat) (x1 : Int32) (x2 : Int32) (Q : Int32 → tw_S → Prop) : Prop := wp_X8_isMachine g σ x1 (fun r2 σ1 => ((¬ r2 = 0) → ((x2 < 0) → Q (-1000000002 : Int32) σ1) ∧ (¬ (x2 < 0) → ((x2 ≤ (6 : Int32)) → ∀ z6, z6 = ((1 : Int32) <<< (x2 &&& 31)) → ∃ n30, wl_X8_turned_30 g a0 x1 x2 Q (fun v13 σ14 => Q v13 σ14) n30 (0 : Int32) z6 σ1) ∧ (¬ (x2 ≤ (6 : Int32)) → Q (-1000000002 : Int32) σ1))) ∧ ((r2 = 0) → Q (-1000000001 : Int32) σ1))
set_option maxHeartbeats 4000000 in
set_option maxRecDepth 100000 in
theorem lp_X8_turned_30 {p : Program} {l : Launch} {e : Env} {s : State} {m : MethodId} {args : Array Value} {below : List Frame} {meth : Method} {c : Code} {D : va_G} {g : tw_G} (X : CallFix p m c cX8_turned 5 s args wsX8_turned RX8) (hr : meth.sig.returnType = (some .int)) (hlk : meth.locks = false) (hK : tw_k D g s) (hT : tw_T g) {a0 : Nat} {x1 : Int32} {x2 : Int32} (h0 : tw_is g 8 a0) {Q : Int32 → tw_S → Prop} {k64 : Int32 → tw_S → Prop}
    (hk64 : ∀ (x3 : Int32) (σ : tw_S) (H : Heap) (locs : List Loc) (ls : Array Slot), k64 x3 σ → tw_w D g (tw_F g s.heap.size) s σ H locs → lv_has ls 5 [(3, .int x3)] → W p l e RM_X8_turned s m args below meth c H locs 0 0 (tw_Qi Q D g below args s) (F0 m 64 ls []))
    : ∀ (n : Nat) (x3 : Int32) (x4 : Int32) (σ : tw_S) (H : Heap) (locs : List Loc) (ls : Array Slot), wl_X8_turned_30 g a0 x1 x2 Q k64 n x3 x4 σ → tw_w D g (tw_F g s.heap.size) s σ H locs → lv_has ls 5 [(0, .ref a0), (1, .int x1), (2, .int x2), (3, .int x3), (4, .int x4)] → W p l e RM_X8_turned s m args below meth c H locs 0 0 (tw_Qi Q D g below args s) (F0 m 30 ls []) := by
  intro n
  induction n with
  | zero =>
    intro x3 x4 σ H locs ls h w hl
    exact False.elim h
  | succ n ih =>
    intro x3 x4 σ H locs ls h w hl
    rw [wl_X8_turned_30] at h
    refine lv_iload X.1 X.2.1 dX8_turned_30 (lv_at hl 4 rfl) ?_
    refine lv_iconst (v := 2) X.1 X.2.1 dX8_turned_32 (by decide) ?_
    refine lv_iload_n X.1 X.2.1 dX8_turned_33 rfl (lv_at hl 2 rfl) ?_
    refine lv_ishl X.1 X.2.1 dX8_turned_34 ?_
    refine lv_icmp_ge (tgt := 64) X.1 X.2.1 dX8_turned_35 (by decide) (fun c7 => ?_) (fun c7 => ?_)
    · have h := h.1 c7
      exact hk64 x3 σ _ _ ls h w (lv_sub hl [3] rfl)
    · have h := h.2 c7
      refine lv_aload_n X.1 X.2.1 dX8_turned_38 rfl (lv_at hl 0 rfl) ?_
      refine lv_aload_n X.1 X.2.1 dX8_turned_39 rfl (lv_at hl 0 rfl) ?_
      refine tw_get X hK w 8 iw_X8_turned_8 h0 (by decide) rfl 0 (by decide) (List.mem_of_getElem? (i := 3) rfl) rfl dX8_turned_40 ?_
      refine lv_iload_n X.1 X.2.1 dX8_turned_43 rfl (lv_at hl 1 rfl) ?_
      refine tw_cr w (va_runV (As := [.int x1]) (rest := [.ref a0]) X (ct_X0_at l D g hT _ σ (tw_R g a0 0) (tw_t_8_0 hT h0) x1 _ h) (cwV 1 X.2.2.2.2 gX8_turned_X0_at rfl rfl rfl (by decide +kernel) ⟨Nat.le_of_ble_eq_true rfl, Nat.le_of_ble_eq_true rfl⟩) (tw_preV hK w (tw_t_8_0 hT h0) (by decide) rfl [.int x1]) rfl rfl hl.1 rfl (lv_room (Nat.le_of_ble_eq_true rfl)) dX8_turned_44 ⟨Nat.zero_le _, Nat.zero_le _⟩) (fun y9 σ8 H locs hy9 h w => ?_)
      refine lv_iload X.1 X.2.1 dX8_turned_47 (lv_at hl 4 rfl) ?_
      refine tw_ci w (va_runV (As := [.ref y9, .int x4]) (rest := []) X (ct_X8_isTakenBothWays l D g hT _ σ8 a0 h0 y9 hy9 x4 _ h) (cwV 2 X.2.2.2.2 gX8_turned_X8_isTakenBothWays rfl rfl rfl (by decide +kernel) ⟨Nat.le_of_ble_eq_true rfl, Nat.le_of_ble_eq_true rfl⟩) (tw_preV hK w h0 (by decide) rfl [.ref y9, .int x4]) rfl rfl hl.1 rfl (lv_room (Nat.le_of_ble_eq_true rfl)) dX8_turned_49 ⟨Nat.zero_le _, Nat.zero_le _⟩) (fun r11 σ10 H locs h w => ?_)
      refine lv_if_eq (tgt := 58) X.1 X.2.1 dX8_turned_52 (by decide) (fun c12 => ?_) (fun c12 => ?_)
      · have h := h.1 c12
        refine lv_iinc (v := (x4 + 1)) (lv' := [(4, .int (x4 + 1)), (0, .ref a0), (1, .int x1), (2, .int x2), (3, .int x3)]) X.1 X.2.1 dX8_turned_58 hl (k := 4) rfl rfl (by decide) rfl (fun ls hl => ?_)
        refine lv_goto (tgt := 30) X.1 X.2.1 dX8_turned_61 (by decide) ?_
        exact ih x3 (x4 + 1) σ10 _ _ ls h w (lv_sub hl [1, 2, 3, 4, 0] rfl)
      · have h := h.2 c12
        refine lv_iinc (v := (x3 + 1)) (lv' := [(3, .int (x3 + 1)), (0, .ref a0), (1, .int x1), (2, .int x2), (4, .int x4)]) X.1 X.2.1 dX8_turned_55 hl (k := 3) rfl rfl (by decide) rfl (fun ls hl => ?_)
        refine lv_iinc (v := (x4 + 1)) (lv' := [(4, .int (x4 + 1)), (3, .int (x3 + 1)), (0, .ref a0), (1, .int x1), (2, .int x2)]) X.1 X.2.1 dX8_turned_58 hl (k := 4) rfl rfl (by decide) rfl (fun ls hl => ?_)
        refine lv_goto (tgt := 30) X.1 X.2.1 dX8_turned_61 (by decide) ?_
        exact ih (x3 + 1) (x4 + 1) σ10 _ _ ls h w (lv_sub hl [2, 3, 4, 1, 0] rfl)
set_option maxHeartbeats 4000000 in
set_option maxRecDepth 100000 in
theorem ct_X8_turned (l : Launch) (D : va_G) (g : tw_G) (hT : tw_T g) (sz : Nat) (σ : tw_S) (a0 : Nat) (h0 : tw_is g 8 a0) (x1 : Int32) (x2 : Int32) (Q : Int32 → tw_S → Prop) (h : wp_X8_turned g σ a0 x1 x2 Q) : tw_Mi l yX8_turned wsX8_turned RM_X8_turned D g sz σ [.ref a0, .int x1, .int x2] Q := by
  refine Met.ofW (cc := cX8_turned) (maxL := 5) (ret := (some .int)) (by decide) rfl ?_
  intro p e s m args below meth c s₁ B hml hv
  obtain ⟨rfl, hsz, hP, hK, hD0⟩ := hv
  subst hsz
  have hr := B.returns
  have hlk := B.notSynchronized
  have X : CallFix p m c cX8_turned 5 s _ wsX8_turned RX8 := ⟨B.exec, B.bytes, hml, findClass_of_methodNamed B.named, atoms_spec (ws := wsX8_turned) B.pre⟩
  have w := tw_w0 hP hD0
  have hl := lv_entry ([.ref a0, .int x1, .int x2]) (n := 5) (Nat.le_of_ble_eq_true rfl)
  rw [lg_entry_eq]
  generalize (lg_sl ([.ref a0, .int x1, .int x2]) ++ List.replicate (5 - (lg_sl ([.ref a0, .int x1, .int x2])).length) Slot.unset).toArray = ls at hl ⊢
  have hl : lv_has ls 5 [(0, .ref a0), (1, .int x1), (2, .int x2)] := hl
  unfold wp_X8_turned at h
  refine lv_iload_n X.1 X.2.1 dX8_turned_0 rfl (lv_at hl 1 rfl) ?_
  refine tw_ci w (va_runS (As := [.int x1]) (rest := []) X (ct_X8_isMachine l D g hT _ σ x1 _ h) (va_cwS 1 X.2.2.2.2 gX8_turned_X8_isMachine rfl rfl rfl (by decide +kernel) ⟨Nat.le_of_ble_eq_true rfl, Nat.le_of_ble_eq_true rfl⟩) (tw_pre hK w [.int x1]) rfl rfl hl.1 rfl (lv_room (Nat.le_of_ble_eq_true rfl)) dX8_turned_1 ⟨Nat.zero_le _, Nat.zero_le _⟩) (fun r2 σ1 H locs h w => ?_)
  refine lv_if_ne (tgt := 10) X.1 X.2.1 dX8_turned_4 (by decide) (fun c3 => ?_) (fun c3 => ?_)
  · have h := h.1 c3
    refine lv_iload_n X.1 X.2.1 dX8_turned_10 rfl (lv_at hl 2 rfl) ?_
    refine lv_if_lt (tgt := 20) X.1 X.2.1 dX8_turned_11 (by decide) (fun c4 => ?_) (fun c4 => ?_)
    · have h := h.1 c4
      refine lv_ldc (own := RX8) (v := -1000000002) X.1 X.2.1 X.2.2.2.1 (X.2.2.2.2 _ (List.mem_of_getElem? (i := 2) rfl)) dX8_turned_20 ?_
      exact tw_iret X hr hlk w h dX8_turned_22
    · have h := h.2 c4
      refine lv_iload_n X.1 X.2.1 dX8_turned_14 rfl (lv_at hl 2 rfl) ?_
      refine lv_bipush (v := 6) X.1 X.2.1 dX8_turned_15 (by decide) ?_
      refine lv_icmp_le (tgt := 23) X.1 X.2.1 dX8_turned_17 (by decide) (fun c5 => ?_) (fun c5 => ?_)
      · have h := h.1 c5
        refine lv_iconst (v := 0) X.1 X.2.1 dX8_turned_23 (by decide) ?_
        refine lv_istore_n (lv' := [(3, .int (0 : Int32)), (0, .ref a0), (1, .int x1), (2, .int x2)]) X.1 X.2.1 dX8_turned_24 rfl hl (by decide) rfl (fun ls hl => ?_)
        refine lv_iconst (v := 1) X.1 X.2.1 dX8_turned_25 (by decide) ?_
        refine lv_iload_n X.1 X.2.1 dX8_turned_26 rfl (lv_at hl 3 rfl) ?_
        refine lv_ishl X.1 X.2.1 dX8_turned_27 ?_
        refine lv_topi (fun z6 ez6 => ?_)
        have h := h _ ez6
        refine lv_istore (lv' := [(4, .int z6), (3, .int (0 : Int32)), (0, .ref a0), (1, .int x1), (2, .int x2)]) X.1 X.2.1 dX8_turned_28 hl (by decide) rfl (fun ls hl => ?_)
        obtain ⟨n30, h⟩ := h
        refine lp_X8_turned_30 X hr hlk hK hT h0 (fun v13 σ14 H locs ls h w hl => ?_) n30 (0 : Int32) z6 σ1 _ _ ls h w (lv_sub hl [2, 3, 4, 1, 0] rfl)
        · skip
          refine lv_iload_n X.1 X.2.1 dX8_turned_64 rfl (lv_at hl 0 rfl) ?_
          exact tw_iret X hr hlk w h dX8_turned_65
      · have h := h.2 c5
        refine lv_ldc (own := RX8) (v := -1000000002) X.1 X.2.1 X.2.2.2.1 (X.2.2.2.2 _ (List.mem_of_getElem? (i := 2) rfl)) dX8_turned_20 ?_
        exact tw_iret X hr hlk w h dX8_turned_22
  · have h := h.2 c3
    refine lv_ldc (own := RX8) (v := -1000000001) X.1 X.2.1 X.2.2.2.1 (X.2.2.2.2 _ (List.mem_of_getElem? (i := 1) rfl)) dX8_turned_7 ?_
    exact tw_iret X hr hlk w h dX8_turned_9

abbrev RM_X8_imageAt : Room := { frames := 0, cells := 0, slots := 0, locals := 0 }
theorem iw_X8_imageAt_8 : ∀ w ∈ wsX80, w ∈ wsX8_imageAt := fun w h => List.mem_cons_of_mem _ (List.mem_append_right _ (h))
def wp_X8_imageAt (g : tw_G) (σ : tw_S) (a0 : Nat) (x1 : Int32) (Q : Option Nat → tw_S → Prop) : Prop := ((x1 < 0) → Q none σ) ∧ (¬ (x1 < 0) → (((2 : Int32) ≤ x1) → Q none σ) ∧ (¬ ((2 : Int32) ≤ x1) → vp_in x1 2 ∧ Q (some (tw_E g (tw_R g a0 2) x1.toNatClampNeg)) σ))
set_option maxHeartbeats 4000000 in
set_option maxRecDepth 100000 in
theorem ct_X8_imageAt (l : Launch) (D : va_G) (g : tw_G) (hT : tw_T g) (sz : Nat) (σ : tw_S) (a0 : Nat) (h0 : tw_is g 8 a0) (x1 : Int32) (Q : Option Nat → tw_S → Prop) (h : wp_X8_imageAt g σ a0 x1 Q) : tw_Mq l yX8_imageAt wsX8_imageAt RM_X8_imageAt D g sz σ [.ref a0, .int x1] (fun r σ => (∀ y, r = some y → tw_is g 0 y) ∧ Q r σ) := by
  refine Met.ofW (cc := cX8_imageAt) (maxL := 2) (ret := (some (.object "TwoWays$Both"))) (by decide) rfl ?_
  intro p e s m args below meth c s₁ B hml hv
  obtain ⟨rfl, hsz, hP, hK, hD0⟩ := hv
  subst hsz
  have hr := B.returns
  have hlk := B.notSynchronized
  have X : CallFix p m c cX8_imageAt 2 s _ wsX8_imageAt RX8 := ⟨B.exec, B.bytes, hml, findClass_of_methodNamed B.named, atoms_spec (ws := wsX8_imageAt) B.pre⟩
  have w := tw_w0 hP hD0
  have hl := lv_entry ([.ref a0, .int x1]) (n := 2) (Nat.le_of_ble_eq_true rfl)
  rw [lg_entry_eq]
  generalize (lg_sl ([.ref a0, .int x1]) ++ List.replicate (2 - (lg_sl ([.ref a0, .int x1])).length) Slot.unset).toArray = ls at hl ⊢
  have hl : lv_has ls 2 [(0, .ref a0), (1, .int x1)] := hl
  unfold wp_X8_imageAt at h
  refine lv_iload_n X.1 X.2.1 dX8_imageAt_0 rfl (lv_at hl 1 rfl) ?_
  refine lv_if_lt (tgt := 18) X.1 X.2.1 dX8_imageAt_1 (by decide) (fun c1 => ?_) (fun c1 => ?_)
  · have h := h.1 c1
    refine lv_null X.1 X.2.1 dX8_imageAt_18 ?_
    exact tw_qret (v := none) X hr hlk w ⟨fun _ e => (by cases e), h⟩ dX8_imageAt_19
  · have h := h.2 c1
    refine lv_iload_n X.1 X.2.1 dX8_imageAt_4 rfl (lv_at hl 1 rfl) ?_
    refine lv_iconst (v := 2) X.1 X.2.1 dX8_imageAt_5 (by decide) ?_
    refine lv_icmp_ge (tgt := 18) X.1 X.2.1 dX8_imageAt_6 (by decide) (fun c2 => ?_) (fun c2 => ?_)
    · have h := h.1 c2
      refine lv_null X.1 X.2.1 dX8_imageAt_18 ?_
      exact tw_qret (v := none) X hr hlk w ⟨fun _ e => (by cases e), h⟩ dX8_imageAt_19
    · have h := h.2 c2
      refine lv_aload_n X.1 X.2.1 dX8_imageAt_9 rfl (lv_at hl 0 rfl) ?_
      refine tw_get X hK w 8 iw_X8_imageAt_8 h0 (by decide) rfl 2 (by decide) (List.mem_of_getElem? (i := 1) rfl) rfl dX8_imageAt_10 ?_
      refine lv_iload_n X.1 X.2.1 dX8_imageAt_13 rfl (lv_at hl 1 rfl) ?_
      obtain ⟨hi3, h⟩ := h
      refine tw_aald X hK w (tw_t_8_2 hT h0) (tw_n_8_2 hT h0) hi3 dX8_imageAt_14 ?_
      refine lv_goto (tgt := 19) X.1 X.2.1 dX8_imageAt_15 (by decide) ?_
      exact tw_qret (v := some (tw_E g (tw_R g a0 2) x1.toNatClampNeg)) X hr hlk w ⟨fun _ e => (by cases e; exact (tw_t_13 hT (tw_t_8_2 hT h0) (tw_lt hi3 (tw_n_8_2 hT h0)))), h⟩ dX8_imageAt_19

abbrev RM_X8_keep : Room := { frames := 3, cells := 0, slots := 0, locals := 68 }
theorem iw_X8_keep_8 : ∀ w ∈ wsX80, w ∈ wsX8_keep := fun w h => List.mem_cons_of_mem _ (List.mem_append_left _ (List.mem_append_left _ (List.mem_append_left _ (List.mem_append_right _ (h)))))
def wp_X8_keep (g : tw_G) (σ : tw_S) (a0 : Nat) (x1 : Int32) (Q : Int32 → tw_S → Prop) : Prop := wp_X8_imageAt g σ a0 x1 (fun r3 σ1 => (r3 = none → Q (-1000000001 : Int32) σ1) ∧ (∀ y2, r3 = some y2 → wp_X0_become g σ1 y2 (tw_R g a0 0) (fun σ4 => vp_in x1 2 ∧ ∀ σ6, σ6 = (tw_sA σ4 (tw_R g a0 3) (upd (tw_A σ4 (tw_R g a0 3)) x1.toNatClampNeg (vp_nar .boolean (1 : Int32)))) → wp_X2_forget g σ6 (tw_R g a0 1) (fun σ7 => Q (1 : Int32) σ7))))
set_option maxHeartbeats 4000000 in
set_option maxRecDepth 100000 in
theorem ct_X8_keep (l : Launch) (D : va_G) (g : tw_G) (hT : tw_T g) (sz : Nat) (σ : tw_S) (a0 : Nat) (h0 : tw_is g 8 a0) (x1 : Int32) (Q : Int32 → tw_S → Prop) (h : wp_X8_keep g σ a0 x1 Q) : tw_Mi l yX8_keep wsX8_keep RM_X8_keep D g sz σ [.ref a0, .int x1] Q := by
  refine Met.ofW (cc := cX8_keep) (maxL := 3) (ret := (some .int)) (by decide) rfl ?_
  intro p e s m args below meth c s₁ B hml hv
  obtain ⟨rfl, hsz, hP, hK, hD0⟩ := hv
  subst hsz
  have hr := B.returns
  have hlk := B.notSynchronized
  have X : CallFix p m c cX8_keep 3 s _ wsX8_keep RX8 := ⟨B.exec, B.bytes, hml, findClass_of_methodNamed B.named, atoms_spec (ws := wsX8_keep) B.pre⟩
  have w := tw_w0 hP hD0
  have hl := lv_entry ([.ref a0, .int x1]) (n := 3) (Nat.le_of_ble_eq_true rfl)
  rw [lg_entry_eq]
  generalize (lg_sl ([.ref a0, .int x1]) ++ List.replicate (3 - (lg_sl ([.ref a0, .int x1])).length) Slot.unset).toArray = ls at hl ⊢
  have hl : lv_has ls 3 [(0, .ref a0), (1, .int x1)] := hl
  unfold wp_X8_keep at h
  refine lv_aload_n X.1 X.2.1 dX8_keep_0 rfl (lv_at hl 0 rfl) ?_
  refine lv_iload_n X.1 X.2.1 dX8_keep_1 rfl (lv_at hl 1 rfl) ?_
  refine tw_cq w (va_runV (As := [.int x1]) (rest := []) X (ct_X8_imageAt l D g hT _ σ a0 h0 x1 _ h) (cwV 1 X.2.2.2.2 gX8_keep_X8_imageAt rfl rfl rfl (by decide +kernel) ⟨Nat.le_of_ble_eq_true rfl, Nat.le_of_ble_eq_true rfl⟩) (tw_preV hK w h0 (by decide) rfl [.int x1]) rfl rfl hl.1 rfl (lv_room (Nat.le_of_ble_eq_true rfl)) dX8_keep_2 ⟨Nat.zero_le _, Nat.zero_le _⟩) (fun σ1 H locs h w => ?_) (fun y2 σ1 H locs hy2 h w => ?_)
  · have h := h.1 rfl
    refine lv_astore_nN (lv' := [(2, .null), (0, .ref a0), (1, .int x1)]) X.1 X.2.1 dX8_keep_5 rfl hl (by decide) rfl (fun ls hl => ?_)
    refine lv_aload_nN X.1 X.2.1 dX8_keep_6 rfl (lv_at hl 0 rfl) ?_
    refine lv_ifnonnullN X.1 X.2.1 dX8_keep_7 ?_
    refine lv_ldc (own := RX8) (v := -1000000001) X.1 X.2.1 X.2.2.2.1 (X.2.2.2.2 _ (List.mem_of_getElem? (i := 1) rfl)) dX8_keep_10 ?_
    exact tw_iret X hr hlk w h dX8_keep_12
  · have h := h.2 y2 rfl
    refine lv_astore_n (lv' := [(2, .ref y2), (0, .ref a0), (1, .int x1)]) X.1 X.2.1 dX8_keep_5 rfl hl (by decide) rfl (fun ls hl => ?_)
    refine lv_aload_n X.1 X.2.1 dX8_keep_6 rfl (lv_at hl 0 rfl) ?_
    refine lv_ifnonnull (tgt := 13) X.1 X.2.1 dX8_keep_7 (by decide) ?_
    refine lv_aload_n X.1 X.2.1 dX8_keep_13 rfl (lv_at hl 0 rfl) ?_
    refine lv_aload_n X.1 X.2.1 dX8_keep_14 rfl (lv_at hl 1 rfl) ?_
    refine tw_get X hK w 8 iw_X8_keep_8 h0 (by decide) rfl 0 (by decide) (List.mem_of_getElem? (i := 2) rfl) rfl dX8_keep_15 ?_
    refine tw_cv w (va_runV (As := [.ref (tw_R g a0 0)]) (rest := []) X (ct_X0_become l D g hT _ σ1 y2 hy2 (tw_R g a0 0) (tw_t_8_0 hT h0) _ h) (cwV 1 X.2.2.2.2 gX8_keep_X0_become rfl rfl rfl (by decide +kernel) ⟨Nat.le_of_ble_eq_true rfl, Nat.le_of_ble_eq_true rfl⟩) (tw_preV hK w hy2 (by decide) rfl [.ref (tw_R g a0 0)]) rfl rfl hl.1 rfl (lv_room (Nat.le_of_ble_eq_true rfl)) dX8_keep_18 ⟨Nat.zero_le _, Nat.zero_le _⟩) (fun σ4 H locs h w => ?_)
    refine lv_aload_n X.1 X.2.1 dX8_keep_21 rfl (lv_at hl 1 rfl) ?_
    refine tw_get X hK w 8 iw_X8_keep_8 h0 (by decide) rfl 3 (by decide) (List.mem_of_getElem? (i := 3) rfl) rfl dX8_keep_22 ?_
    refine lv_iload_n X.1 X.2.1 dX8_keep_25 rfl (lv_at hl 2 rfl) ?_
    refine lv_iconst (v := 1) X.1 X.2.1 dX8_keep_26 (by decide) ?_
    obtain ⟨hi5, h⟩ := h
    refine tw_zast X hK w (tw_t_8_3 hT h0) (tw_n_8_3 hT h0) hi5 dX8_keep_27 (fun σ6 H locs eσ6 w => ?_)
    have h := h _ eσ6
    refine lv_aload_n X.1 X.2.1 dX8_keep_28 rfl (lv_at hl 1 rfl) ?_
    refine tw_get X hK w 8 iw_X8_keep_8 h0 (by decide) rfl 1 (by decide) (List.mem_of_getElem? (i := 4) rfl) rfl dX8_keep_29 ?_
    refine tw_cv w (va_runV (As := []) (rest := []) X (ct_X2_forget l D g hT _ σ6 (tw_R g a0 1) (tw_t_8_1 hT h0) _ h) (cwV 0 X.2.2.2.2 gX8_keep_X2_forget rfl rfl rfl (by decide +kernel) ⟨Nat.le_of_ble_eq_true rfl, Nat.le_of_ble_eq_true rfl⟩) (tw_preV hK w (tw_t_8_1 hT h0) (by decide) rfl []) rfl rfl hl.1 rfl (lv_room (Nat.le_of_ble_eq_true rfl)) dX8_keep_32 ⟨Nat.zero_le _, Nat.zero_le _⟩) (fun σ7 H locs h w => ?_)
    refine lv_iconst (v := 1) X.1 X.2.1 dX8_keep_35 (by decide) ?_
    exact tw_iret X hr hlk w h dX8_keep_36

abbrev RM_X8_goBack : Room := { frames := 3, cells := 0, slots := 0, locals := 68 }
theorem iw_X8_goBack_8 : ∀ w ∈ wsX80, w ∈ wsX8_goBack := fun w h => List.mem_cons_of_mem _ (List.mem_append_left _ (List.mem_append_left _ (List.mem_append_left _ (List.mem_append_right _ (h)))))
def wp_X8_goBack (g : tw_G) (σ : tw_S) (a0 : Nat) (x1 : Int32) (Q : Int32 → tw_S → Prop) : Prop := wp_X8_imageAt g σ a0 x1 (fun r3 σ1 => (r3 = none → Q (-1000000001 : Int32) σ1) ∧ (∀ y2, r3 = some y2 → vp_in x1 2 ∧ ((¬ (tw_A σ1 (tw_R g a0 3) x1.toNatClampNeg) = 0) → wp_X0_become g σ1 (tw_R g a0 0) y2 (fun σ6 => wp_X2_forget g σ6 (tw_R g a0 1) (fun σ7 => Q (1 : Int32) σ7))) ∧ (((tw_A σ1 (tw_R g a0 3) x1.toNatClampNeg) = 0) → Q (-1000000003 : Int32) σ1)))
set_option maxHeartbeats 4000000 in
set_option maxRecDepth 100000 in
theorem ct_X8_goBack (l : Launch) (D : va_G) (g : tw_G) (hT : tw_T g) (sz : Nat) (σ : tw_S) (a0 : Nat) (h0 : tw_is g 8 a0) (x1 : Int32) (Q : Int32 → tw_S → Prop) (h : wp_X8_goBack g σ a0 x1 Q) : tw_Mi l yX8_goBack wsX8_goBack RM_X8_goBack D g sz σ [.ref a0, .int x1] Q := by
  refine Met.ofW (cc := cX8_goBack) (maxL := 3) (ret := (some .int)) (by decide) rfl ?_
  intro p e s m args below meth c s₁ B hml hv
  obtain ⟨rfl, hsz, hP, hK, hD0⟩ := hv
  subst hsz
  have hr := B.returns
  have hlk := B.notSynchronized
  have X : CallFix p m c cX8_goBack 3 s _ wsX8_goBack RX8 := ⟨B.exec, B.bytes, hml, findClass_of_methodNamed B.named, atoms_spec (ws := wsX8_goBack) B.pre⟩
  have w := tw_w0 hP hD0
  have hl := lv_entry ([.ref a0, .int x1]) (n := 3) (Nat.le_of_ble_eq_true rfl)
  rw [lg_entry_eq]
  generalize (lg_sl ([.ref a0, .int x1]) ++ List.replicate (3 - (lg_sl ([.ref a0, .int x1])).length) Slot.unset).toArray = ls at hl ⊢
  have hl : lv_has ls 3 [(0, .ref a0), (1, .int x1)] := hl
  unfold wp_X8_goBack at h
  refine lv_aload_n X.1 X.2.1 dX8_goBack_0 rfl (lv_at hl 0 rfl) ?_
  refine lv_iload_n X.1 X.2.1 dX8_goBack_1 rfl (lv_at hl 1 rfl) ?_
  refine tw_cq w (va_runV (As := [.int x1]) (rest := []) X (ct_X8_imageAt l D g hT _ σ a0 h0 x1 _ h) (cwV 1 X.2.2.2.2 gX8_goBack_X8_imageAt rfl rfl rfl (by decide +kernel) ⟨Nat.le_of_ble_eq_true rfl, Nat.le_of_ble_eq_true rfl⟩) (tw_preV hK w h0 (by decide) rfl [.int x1]) rfl rfl hl.1 rfl (lv_room (Nat.le_of_ble_eq_true rfl)) dX8_goBack_2 ⟨Nat.zero_le _, Nat.zero_le _⟩) (fun σ1 H locs h w => ?_) (fun y2 σ1 H locs hy2 h w => ?_)
  · have h := h.1 rfl
    refine lv_astore_nN (lv' := [(2, .null), (0, .ref a0), (1, .int x1)]) X.1 X.2.1 dX8_goBack_5 rfl hl (by decide) rfl (fun ls hl => ?_)
    refine lv_aload_nN X.1 X.2.1 dX8_goBack_6 rfl (lv_at hl 0 rfl) ?_
    refine lv_ifnonnullN X.1 X.2.1 dX8_goBack_7 ?_
    refine lv_ldc (own := RX8) (v := -1000000001) X.1 X.2.1 X.2.2.2.1 (X.2.2.2.2 _ (List.mem_of_getElem? (i := 1) rfl)) dX8_goBack_10 ?_
    exact tw_iret X hr hlk w h dX8_goBack_12
  · have h := h.2 y2 rfl
    refine lv_astore_n (lv' := [(2, .ref y2), (0, .ref a0), (1, .int x1)]) X.1 X.2.1 dX8_goBack_5 rfl hl (by decide) rfl (fun ls hl => ?_)
    refine lv_aload_n X.1 X.2.1 dX8_goBack_6 rfl (lv_at hl 0 rfl) ?_
    refine lv_ifnonnull (tgt := 13) X.1 X.2.1 dX8_goBack_7 (by decide) ?_
    refine lv_aload_n X.1 X.2.1 dX8_goBack_13 rfl (lv_at hl 1 rfl) ?_
    refine tw_get X hK w 8 iw_X8_goBack_8 h0 (by decide) rfl 3 (by decide) (List.mem_of_getElem? (i := 2) rfl) rfl dX8_goBack_14 ?_
    refine lv_iload_n X.1 X.2.1 dX8_goBack_17 rfl (lv_at hl 2 rfl) ?_
    obtain ⟨hi4, h⟩ := h
    refine tw_zald X hK w (tw_t_8_3 hT h0) (tw_n_8_3 hT h0) hi4 dX8_goBack_18 ?_
    refine lv_if_ne (tgt := 25) X.1 X.2.1 dX8_goBack_19 (by decide) (fun c5 => ?_) (fun c5 => ?_)
    · have h := h.1 c5
      refine lv_aload_n X.1 X.2.1 dX8_goBack_25 rfl (lv_at hl 1 rfl) ?_
      refine tw_get X hK w 8 iw_X8_goBack_8 h0 (by decide) rfl 0 (by decide) (List.mem_of_getElem? (i := 4) rfl) rfl dX8_goBack_26 ?_
      refine lv_aload_n X.1 X.2.1 dX8_goBack_29 rfl (lv_at hl 0 rfl) ?_
      refine tw_cv w (va_runV (As := [.ref y2]) (rest := []) X (ct_X0_become l D g hT _ σ1 (tw_R g a0 0) (tw_t_8_0 hT h0) y2 hy2 _ h) (cwV 1 X.2.2.2.2 gX8_goBack_X0_become rfl rfl rfl (by decide +kernel) ⟨Nat.le_of_ble_eq_true rfl, Nat.le_of_ble_eq_true rfl⟩) (tw_preV hK w (tw_t_8_0 hT h0) (by decide) rfl [.ref y2]) rfl rfl hl.1 rfl (lv_room (Nat.le_of_ble_eq_true rfl)) dX8_goBack_30 ⟨Nat.zero_le _, Nat.zero_le _⟩) (fun σ6 H locs h w => ?_)
      refine lv_aload_n X.1 X.2.1 dX8_goBack_33 rfl (lv_at hl 1 rfl) ?_
      refine tw_get X hK w 8 iw_X8_goBack_8 h0 (by decide) rfl 1 (by decide) (List.mem_of_getElem? (i := 5) rfl) rfl dX8_goBack_34 ?_
      refine tw_cv w (va_runV (As := []) (rest := []) X (ct_X2_forget l D g hT _ σ6 (tw_R g a0 1) (tw_t_8_1 hT h0) _ h) (cwV 0 X.2.2.2.2 gX8_goBack_X2_forget rfl rfl rfl (by decide +kernel) ⟨Nat.le_of_ble_eq_true rfl, Nat.le_of_ble_eq_true rfl⟩) (tw_preV hK w (tw_t_8_1 hT h0) (by decide) rfl []) rfl rfl hl.1 rfl (lv_room (Nat.le_of_ble_eq_true rfl)) dX8_goBack_37 ⟨Nat.zero_le _, Nat.zero_le _⟩) (fun σ7 H locs h w => ?_)
      refine lv_iconst (v := 1) X.1 X.2.1 dX8_goBack_40 (by decide) ?_
      exact tw_iret X hr hlk w h dX8_goBack_41
    · have h := h.2 c5
      refine lv_ldc (own := RX8) (v := -1000000003) X.1 X.2.1 X.2.2.2.1 (X.2.2.2.2 _ (List.mem_of_getElem? (i := 3) rfl)) dX8_goBack_22 ?_
      exact tw_iret X hr hlk w h dX8_goBack_24

abbrev RM_X9_in : Room := { frames := 0, cells := 0, slots := 0, locals := 0 }
def wp_X9_in (g : tw_G) (σ : tw_S) (x0 : Int64) (x2 : Int64) (x4 : Int64) (Q : Int32 → tw_S → Prop) : Prop := (((lg_cmp x0 x2) < 0) → Q (0 : Int32) σ) ∧ (¬ ((lg_cmp x0 x2) < 0) → ((0 < (lg_cmp x0 x4)) → Q (0 : Int32) σ) ∧ (¬ (0 < (lg_cmp x0 x4)) → Q (1 : Int32) σ))
set_option maxHeartbeats 4000000 in
set_option maxRecDepth 100000 in
theorem ct_X9_in (l : Launch) (D : va_G) (g : tw_G) (hT : tw_T g) (sz : Nat) (σ : tw_S) (x0 : Int64) (x2 : Int64) (x4 : Int64) (Q : Int32 → tw_S → Prop) (h : wp_X9_in g σ x0 x2 x4 Q) : tw_Mi l yX9_in wsX9_in RM_X9_in D g sz σ [.long x0, .long x2, .long x4] Q := by
  refine Met.ofW (cc := cX9_in) (maxL := 6) (ret := (some .boolean)) (by decide) rfl ?_
  intro p e s m args below meth c s₁ B hml hv
  obtain ⟨rfl, hsz, hP, hK, hD0⟩ := hv
  subst hsz
  have hr := B.returns
  have hlk := B.notSynchronized
  have X : CallFix p m c cX9_in 6 s _ wsX9_in RX9 := ⟨B.exec, B.bytes, hml, findClass_of_methodNamed B.named, atoms_spec (ws := wsX9_in) B.pre⟩
  have w := tw_w0 hP hD0
  have hl := lv_entry ([.long x0, .long x2, .long x4]) (n := 6) (Nat.le_of_ble_eq_true rfl)
  rw [lg_entry_eq]
  generalize (lg_sl ([.long x0, .long x2, .long x4]) ++ List.replicate (6 - (lg_sl ([.long x0, .long x2, .long x4])).length) Slot.unset).toArray = ls at hl ⊢
  have hl : lv_has ls 6 [(0, .long x0), (2, .long x2), (4, .long x4)] := hl
  unfold wp_X9_in at h
  refine lv_lload_n X.1 X.2.1 dX9_in_0 rfl (lv_at hl 0 rfl) ?_
  refine lv_lload_n X.1 X.2.1 dX9_in_1 rfl (lv_at hl 1 rfl) ?_
  refine W.lcmp X.1 X.2.1 dX9_in_2 ?_
  refine lv_if_lt (tgt := 17) X.1 X.2.1 dX9_in_3 (by decide) (fun c1 => ?_) (fun c1 => ?_)
  · have h := h.1 c1
    refine lv_iconst (v := 0) X.1 X.2.1 dX9_in_17 (by decide) ?_
    exact tw_zret X hr hlk w (by decide) h dX9_in_18
  · have h := h.2 c1
    refine lv_lload_n X.1 X.2.1 dX9_in_6 rfl (lv_at hl 0 rfl) ?_
    refine lv_lload X.1 X.2.1 dX9_in_7 (lv_at hl 2 rfl) ?_
    refine W.lcmp X.1 X.2.1 dX9_in_9 ?_
    refine lv_if_gt (tgt := 17) X.1 X.2.1 dX9_in_10 (by decide) (fun c2 => ?_) (fun c2 => ?_)
    · have h := h.1 c2
      refine lv_iconst (v := 0) X.1 X.2.1 dX9_in_17 (by decide) ?_
      exact tw_zret X hr hlk w (by decide) h dX9_in_18
    · have h := h.2 c2
      refine lv_iconst (v := 1) X.1 X.2.1 dX9_in_13 (by decide) ?_
      refine lv_goto (tgt := 18) X.1 X.2.1 dX9_in_14 (by decide) ?_
      exact tw_zret X hr hlk w (by decide) h dX9_in_18
