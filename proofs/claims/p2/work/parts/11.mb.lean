abbrev RM_X7_length : Room := { frames := 0, cells := 0, slots := 0, locals := 0 }
theorem iw_X7_length_7 : ∀ w ∈ wsX70, w ∈ wsX7_length := fun w h => List.mem_cons_of_mem _ (List.mem_append_right _ (h))
def wp_X7_length (g : tw_G) (σ : tw_S) (a0 : Nat) (Q : Int32 → tw_S → Prop) : Prop := Q (tw_I σ a0 1) σ
set_option maxHeartbeats 4000000 in
set_option maxRecDepth 100000 in
theorem ct_X7_length (l : Launch) (D : va_G) (g : tw_G) (hT : tw_T g) (sz : Nat) (σ : tw_S) (a0 : Nat) (h0 : tw_is g 7 a0) (Q : Int32 → tw_S → Prop) (h : wp_X7_length g σ a0 Q) : tw_Mi l yX7_length wsX7_length RM_X7_length D g sz σ [.ref a0] Q := by
  refine Met.ofW (cc := cX7_length) (maxL := 1) (ret := (some .int)) (by decide) rfl ?_
  intro p e s m args below meth c s₁ B hml hv
  obtain ⟨rfl, hsz, hP, hK, hD0⟩ := hv
  subst hsz
  have hr := B.returns
  have hlk := B.notSynchronized
  have X : CallFix p m c cX7_length 1 s _ wsX7_length RX7 := ⟨B.exec, B.bytes, hml, findClass_of_methodNamed B.named, atoms_spec (ws := wsX7_length) B.pre⟩
  have w := tw_w0 hP hD0
  have hl := lv_entry ([.ref a0]) (n := 1) (Nat.le_of_ble_eq_true rfl)
  rw [lg_entry_eq]
  generalize (lg_sl ([.ref a0]) ++ List.replicate (1 - (lg_sl ([.ref a0])).length) Slot.unset).toArray = ls at hl ⊢
  have hl : lv_has ls 1 [(0, .ref a0)] := hl
  unfold wp_X7_length at h
  refine lv_aload_n X.1 X.2.1 dX7_length_0 rfl (lv_at hl 0 rfl) ?_
  refine tw_get X hK w 7 iw_X7_length_7 h0 (by decide) rfl 1 (by decide) (List.mem_of_getElem? (i := 1) rfl) rfl dX7_length_1 ?_
  exact tw_iret X hr hlk w h dX7_length_4

abbrev RM_X7_add : Room := { frames := 0, cells := 0, slots := 0, locals := 0 }
theorem iw_X7_add_7 : ∀ w ∈ wsX70, w ∈ wsX7_add := fun w h => List.mem_cons_of_mem _ (List.mem_append_right _ (h))
def wp_X7_add (g : tw_G) (σ : tw_S) (a0 : Nat) (x1 : Int32) (Q : Int32 → tw_S → Prop) : Prop := (((tw_I σ a0 1) < 0) → Q (0 : Int32) σ) ∧ (¬ ((tw_I σ a0 1) < 0) → (((tw_I σ a0 1) < (24 : Int32)) → vp_in (tw_I σ a0 1) 24 ∧ ∀ σ4, σ4 = (tw_sA σ (tw_R g a0 0) (upd (tw_A σ (tw_R g a0 0)) (tw_I σ a0 1).toNatClampNeg x1)) → ∀ σ5, σ5 = (tw_sI σ4 a0 1 ((tw_I σ4 a0 1) + (1 : Int32))) → Q (1 : Int32) σ5) ∧ (¬ ((tw_I σ a0 1) < (24 : Int32)) → Q (0 : Int32) σ))
set_option maxHeartbeats 4000000 in
set_option maxRecDepth 100000 in
theorem ct_X7_add (l : Launch) (D : va_G) (g : tw_G) (hT : tw_T g) (sz : Nat) (σ : tw_S) (a0 : Nat) (h0 : tw_is g 7 a0) (x1 : Int32) (Q : Int32 → tw_S → Prop) (h : wp_X7_add g σ a0 x1 Q) : tw_Mi l yX7_add wsX7_add RM_X7_add D g sz σ [.ref a0, .int x1] Q := by
  refine Met.ofW (cc := cX7_add) (maxL := 2) (ret := (some .boolean)) (by decide) rfl ?_
  intro p e s m args below meth c s₁ B hml hv
  obtain ⟨rfl, hsz, hP, hK, hD0⟩ := hv
  subst hsz
  have hr := B.returns
  have hlk := B.notSynchronized
  have X : CallFix p m c cX7_add 2 s _ wsX7_add RX7 := ⟨B.exec, B.bytes, hml, findClass_of_methodNamed B.named, atoms_spec (ws := wsX7_add) B.pre⟩
  have w := tw_w0 hP hD0
  have hl := lv_entry ([.ref a0, .int x1]) (n := 2) (Nat.le_of_ble_eq_true rfl)
  rw [lg_entry_eq]
  generalize (lg_sl ([.ref a0, .int x1]) ++ List.replicate (2 - (lg_sl ([.ref a0, .int x1])).length) Slot.unset).toArray = ls at hl ⊢
  have hl : lv_has ls 2 [(0, .ref a0), (1, .int x1)] := hl
  unfold wp_X7_add at h
  refine lv_aload_n X.1 X.2.1 dX7_add_0 rfl (lv_at hl 0 rfl) ?_
  refine tw_get X hK w 7 iw_X7_add_7 h0 (by decide) rfl 1 (by decide) (List.mem_of_getElem? (i := 1) rfl) rfl dX7_add_1 ?_
  refine lv_if_lt (tgt := 16) X.1 X.2.1 dX7_add_4 (by decide) (fun c1 => ?_) (fun c1 => ?_)
  · have h := h.1 c1
    refine lv_iconst (v := 0) X.1 X.2.1 dX7_add_16 (by decide) ?_
    exact tw_zret X hr hlk w (by decide) h dX7_add_17
  · have h := h.2 c1
    refine lv_aload_n X.1 X.2.1 dX7_add_7 rfl (lv_at hl 0 rfl) ?_
    refine tw_get X hK w 7 iw_X7_add_7 h0 (by decide) rfl 1 (by decide) (List.mem_of_getElem? (i := 1) rfl) rfl dX7_add_8 ?_
    refine lv_bipush (v := 24) X.1 X.2.1 dX7_add_11 (by decide) ?_
    refine lv_icmp_lt (tgt := 18) X.1 X.2.1 dX7_add_13 (by decide) (fun c2 => ?_) (fun c2 => ?_)
    · have h := h.1 c2
      refine lv_aload_n X.1 X.2.1 dX7_add_18 rfl (lv_at hl 0 rfl) ?_
      refine tw_get X hK w 7 iw_X7_add_7 h0 (by decide) rfl 0 (by decide) (List.mem_of_getElem? (i := 2) rfl) rfl dX7_add_19 ?_
      refine lv_aload_n X.1 X.2.1 dX7_add_22 rfl (lv_at hl 0 rfl) ?_
      refine tw_get X hK w 7 iw_X7_add_7 h0 (by decide) rfl 1 (by decide) (List.mem_of_getElem? (i := 1) rfl) rfl dX7_add_23 ?_
      refine lv_iload_n X.1 X.2.1 dX7_add_26 rfl (lv_at hl 1 rfl) ?_
      obtain ⟨hi3, h⟩ := h
      refine tw_iast X hK w (tw_t_7_0 hT h0) (tw_n_7_0 hT h0) hi3 dX7_add_27 (fun σ4 H locs eσ4 w => ?_)
      have h := h _ eσ4
      refine lv_aload_n X.1 X.2.1 dX7_add_28 rfl (lv_at hl 0 rfl) ?_
      refine lv_dup X.1 X.2.1 dX7_add_29 rfl ?_
      refine tw_get X hK w 7 iw_X7_add_7 h0 (by decide) rfl 1 (by decide) (List.mem_of_getElem? (i := 1) rfl) rfl dX7_add_30 ?_
      refine lv_iconst (v := 1) X.1 X.2.1 dX7_add_33 (by decide) ?_
      refine lv_iadd X.1 X.2.1 dX7_add_34 ?_
      refine tw_putI X hK w 7 iw_X7_add_7 tyX7 tyX7_ok nmX7 h0 (by decide) rfl 1 (by decide) (List.mem_of_getElem? (i := 1) rfl) rfl (ty := .int) (by decide +kernel) rfl rfl (Nat.le_of_ble_eq_true rfl) (tw_f_7_1 g _ _ _) dX7_add_35 (fun σ5 H locs eσ5 w => ?_)
      have h := h _ eσ5
      refine lv_iconst (v := 1) X.1 X.2.1 dX7_add_38 (by decide) ?_
      exact tw_zret X hr hlk w (by decide) h dX7_add_39
    · have h := h.2 c2
      refine lv_iconst (v := 0) X.1 X.2.1 dX7_add_16 (by decide) ?_
      exact tw_zret X hr hlk w (by decide) h dX7_add_17

abbrev RM_X7_letterAt : Room := { frames := 0, cells := 0, slots := 0, locals := 0 }
theorem iw_X7_letterAt_7 : ∀ w ∈ wsX70, w ∈ wsX7_letterAt := fun w h => List.mem_cons_of_mem _ (List.mem_append_right _ (h))
def wp_X7_letterAt (g : tw_G) (σ : tw_S) (a0 : Nat) (x1 : Int32) (Q : Int32 → tw_S → Prop) : Prop := ((x1 < 0) → Q (-1 : Int32) σ) ∧ (¬ (x1 < 0) → (((tw_I σ a0 1) ≤ x1) → Q (-1 : Int32) σ) ∧ (¬ ((tw_I σ a0 1) ≤ x1) → (((24 : Int32) ≤ x1) → Q (-1 : Int32) σ) ∧ (¬ ((24 : Int32) ≤ x1) → vp_in x1 24 ∧ Q (tw_A σ (tw_R g a0 0) x1.toNatClampNeg) σ)))
set_option maxHeartbeats 4000000 in
set_option maxRecDepth 100000 in
theorem ct_X7_letterAt (l : Launch) (D : va_G) (g : tw_G) (hT : tw_T g) (sz : Nat) (σ : tw_S) (a0 : Nat) (h0 : tw_is g 7 a0) (x1 : Int32) (Q : Int32 → tw_S → Prop) (h : wp_X7_letterAt g σ a0 x1 Q) : tw_Mi l yX7_letterAt wsX7_letterAt RM_X7_letterAt D g sz σ [.ref a0, .int x1] Q := by
  refine Met.ofW (cc := cX7_letterAt) (maxL := 2) (ret := (some .int)) (by decide) rfl ?_
  intro p e s m args below meth c s₁ B hml hv
  obtain ⟨rfl, hsz, hP, hK, hD0⟩ := hv
  subst hsz
  have hr := B.returns
  have hlk := B.notSynchronized
  have X : CallFix p m c cX7_letterAt 2 s _ wsX7_letterAt RX7 := ⟨B.exec, B.bytes, hml, findClass_of_methodNamed B.named, atoms_spec (ws := wsX7_letterAt) B.pre⟩
  have w := tw_w0 hP hD0
  have hl := lv_entry ([.ref a0, .int x1]) (n := 2) (Nat.le_of_ble_eq_true rfl)
  rw [lg_entry_eq]
  generalize (lg_sl ([.ref a0, .int x1]) ++ List.replicate (2 - (lg_sl ([.ref a0, .int x1])).length) Slot.unset).toArray = ls at hl ⊢
  have hl : lv_has ls 2 [(0, .ref a0), (1, .int x1)] := hl
  unfold wp_X7_letterAt at h
  refine lv_iload_n X.1 X.2.1 dX7_letterAt_0 rfl (lv_at hl 1 rfl) ?_
  refine lv_if_lt (tgt := 27) X.1 X.2.1 dX7_letterAt_1 (by decide) (fun c1 => ?_) (fun c1 => ?_)
  · have h := h.1 c1
    refine lv_iconst (v := -1) X.1 X.2.1 dX7_letterAt_27 (by decide) ?_
    exact tw_iret X hr hlk w h dX7_letterAt_28
  · have h := h.2 c1
    refine lv_iload_n X.1 X.2.1 dX7_letterAt_4 rfl (lv_at hl 1 rfl) ?_
    refine lv_aload_n X.1 X.2.1 dX7_letterAt_5 rfl (lv_at hl 0 rfl) ?_
    refine tw_get X hK w 7 iw_X7_letterAt_7 h0 (by decide) rfl 1 (by decide) (List.mem_of_getElem? (i := 1) rfl) rfl dX7_letterAt_6 ?_
    refine lv_icmp_ge (tgt := 27) X.1 X.2.1 dX7_letterAt_9 (by decide) (fun c2 => ?_) (fun c2 => ?_)
    · have h := h.1 c2
      refine lv_iconst (v := -1) X.1 X.2.1 dX7_letterAt_27 (by decide) ?_
      exact tw_iret X hr hlk w h dX7_letterAt_28
    · have h := h.2 c2
      refine lv_iload_n X.1 X.2.1 dX7_letterAt_12 rfl (lv_at hl 1 rfl) ?_
      refine lv_bipush (v := 24) X.1 X.2.1 dX7_letterAt_13 (by decide) ?_
      refine lv_icmp_ge (tgt := 27) X.1 X.2.1 dX7_letterAt_15 (by decide) (fun c3 => ?_) (fun c3 => ?_)
      · have h := h.1 c3
        refine lv_iconst (v := -1) X.1 X.2.1 dX7_letterAt_27 (by decide) ?_
        exact tw_iret X hr hlk w h dX7_letterAt_28
      · have h := h.2 c3
        refine lv_aload_n X.1 X.2.1 dX7_letterAt_18 rfl (lv_at hl 0 rfl) ?_
        refine tw_get X hK w 7 iw_X7_letterAt_7 h0 (by decide) rfl 0 (by decide) (List.mem_of_getElem? (i := 2) rfl) rfl dX7_letterAt_19 ?_
        refine lv_iload_n X.1 X.2.1 dX7_letterAt_22 rfl (lv_at hl 1 rfl) ?_
        obtain ⟨hi4, h⟩ := h
        refine tw_iald X hK w (tw_t_7_0 hT h0) (tw_n_7_0 hT h0) hi4 dX7_letterAt_23 ?_
        refine lv_goto (tgt := 28) X.1 X.2.1 dX7_letterAt_24 (by decide) ?_
        exact tw_iret X hr hlk w h dX7_letterAt_28

abbrev RM_X7_signAt : Room := { frames := 1, cells := 0, slots := 0, locals := 21 }
theorem iw_X7_signAt_7 : ∀ w ∈ wsX70, w ∈ wsX7_signAt := fun w h => List.mem_cons_of_mem _ (List.mem_append_right _ (h))
def wp_X7_signAt (g : tw_G) (σ : tw_S) (a0 : Nat) (x1 : Int32) (Q : Int32 → tw_S → Prop) : Prop := ((¬ x1 = 0) → ((¬ x1 = ((tw_I σ a0 1) + (1 : Int32))) → wp_X7_letterAt g σ a0 (x1 - (1 : Int32)) (fun r4 σ3 => Q r4 σ3)) ∧ ((x1 = ((tw_I σ a0 1) + (1 : Int32))) → Q (3 : Int32) σ)) ∧ ((x1 = 0) → Q (2 : Int32) σ)
set_option maxHeartbeats 4000000 in
set_option maxRecDepth 100000 in
theorem ct_X7_signAt (l : Launch) (D : va_G) (g : tw_G) (hT : tw_T g) (sz : Nat) (σ : tw_S) (a0 : Nat) (h0 : tw_is g 7 a0) (x1 : Int32) (Q : Int32 → tw_S → Prop) (h : wp_X7_signAt g σ a0 x1 Q) : tw_Mi l yX7_signAt wsX7_signAt RM_X7_signAt D g sz σ [.ref a0, .int x1] Q := by
  refine Met.ofW (cc := cX7_signAt) (maxL := 2) (ret := (some .int)) (by decide) rfl ?_
  intro p e s m args below meth c s₁ B hml hv
  obtain ⟨rfl, hsz, hP, hK, hD0⟩ := hv
  subst hsz
  have hr := B.returns
  have hlk := B.notSynchronized
  have X : CallFix p m c cX7_signAt 2 s _ wsX7_signAt RX7 := ⟨B.exec, B.bytes, hml, findClass_of_methodNamed B.named, atoms_spec (ws := wsX7_signAt) B.pre⟩
  have w := tw_w0 hP hD0
  have hl := lv_entry ([.ref a0, .int x1]) (n := 2) (Nat.le_of_ble_eq_true rfl)
  rw [lg_entry_eq]
  generalize (lg_sl ([.ref a0, .int x1]) ++ List.replicate (2 - (lg_sl ([.ref a0, .int x1])).length) Slot.unset).toArray = ls at hl ⊢
  have hl : lv_has ls 2 [(0, .ref a0), (1, .int x1)] := hl
  unfold wp_X7_signAt at h
  refine lv_iload_n X.1 X.2.1 dX7_signAt_0 rfl (lv_at hl 1 rfl) ?_
  refine lv_if_ne (tgt := 6) X.1 X.2.1 dX7_signAt_1 (by decide) (fun c1 => ?_) (fun c1 => ?_)
  · have h := h.1 c1
    refine lv_iload_n X.1 X.2.1 dX7_signAt_6 rfl (lv_at hl 1 rfl) ?_
    refine lv_aload_n X.1 X.2.1 dX7_signAt_7 rfl (lv_at hl 0 rfl) ?_
    refine tw_get X hK w 7 iw_X7_signAt_7 h0 (by decide) rfl 1 (by decide) (List.mem_of_getElem? (i := 1) rfl) rfl dX7_signAt_8 ?_
    refine lv_iconst (v := 1) X.1 X.2.1 dX7_signAt_11 (by decide) ?_
    refine lv_iadd X.1 X.2.1 dX7_signAt_12 ?_
    refine lv_icmp_ne (tgt := 20) X.1 X.2.1 dX7_signAt_13 (by decide) (fun c2 => ?_) (fun c2 => ?_)
    · have h := h.1 c2
      refine lv_aload_n X.1 X.2.1 dX7_signAt_20 rfl (lv_at hl 0 rfl) ?_
      refine lv_iload_n X.1 X.2.1 dX7_signAt_21 rfl (lv_at hl 1 rfl) ?_
      refine lv_iconst (v := 1) X.1 X.2.1 dX7_signAt_22 (by decide) ?_
      refine lv_isub X.1 X.2.1 dX7_signAt_23 ?_
      refine tw_ci w (va_runV (As := [.int (x1 - (1 : Int32))]) (rest := []) X (ct_X7_letterAt l D g hT _ σ a0 h0 (x1 - (1 : Int32)) _ h) (cwV 1 X.2.2.2.2 gX7_signAt_X7_letterAt rfl rfl rfl (by decide +kernel) ⟨Nat.le_of_ble_eq_true rfl, Nat.le_of_ble_eq_true rfl⟩) (tw_preV hK w h0 (by decide) rfl [.int (x1 - (1 : Int32))]) rfl rfl hl.1 rfl (lv_room (Nat.le_of_ble_eq_true rfl)) dX7_signAt_24 ⟨Nat.zero_le _, Nat.zero_le _⟩) (fun r4 σ3 H locs h w => ?_)
      exact tw_iret X hr hlk w h dX7_signAt_27
    · have h := h.2 c2
      refine lv_iconst (v := 3) X.1 X.2.1 dX7_signAt_16 (by decide) ?_
      refine lv_goto (tgt := 27) X.1 X.2.1 dX7_signAt_17 (by decide) ?_
      exact tw_iret X hr hlk w h dX7_signAt_27
  · have h := h.2 c1
    refine lv_iconst (v := 2) X.1 X.2.1 dX7_signAt_4 (by decide) ?_
    exact tw_iret X hr hlk w h dX7_signAt_5

abbrev RM_X7_number : Room := { frames := 1, cells := 0, slots := 0, locals := 21 }
theorem iw_X7_number_7 : ∀ w ∈ wsX70, w ∈ wsX7_number := fun w h => List.mem_cons_of_mem _ (List.mem_append_right _ (h))
def wl_X7_number_4 (g : tw_G) (a0 : Nat) (Q : Int32 → tw_S → Prop) (k28 : Int32 → tw_S → Prop) : Nat → Int32 → Int32 → tw_S → Prop
  | 0, _, _, _ => False
  | n + 1, x1, x2, σ => (((tw_I σ a0 1) ≤ x2) → k28 x1 σ) ∧ (¬ ((tw_I σ a0 1) ≤ x2) → wp_X7_letterAt g σ a0 x2 (fun r3 σ2 => ∀ z4, z4 = (((2 : Int32) * x1) + r3) → wl_X7_number_4 g a0 Q k28 n z4 (x2 + 1) σ2))
def wp_X7_number (g : tw_G) (σ : tw_S) (a0 : Nat) (Q : Int32 → tw_S → Prop) : Prop := ∃ n4, wl_X7_number_4 g a0 Q (fun v5 σ6 => Q v5 σ6) n4 (1 : Int32) (0 : Int32) σ
set_option maxHeartbeats 4000000 in
set_option maxRecDepth 100000 in
theorem lp_X7_number_4 {p : Program} {l : Launch} {e : Env} {s : State} {m : MethodId} {args : Array Value} {below : List Frame} {meth : Method} {c : Code} {D : va_G} {g : tw_G} (X : CallFix p m c cX7_number 3 s args wsX7_number RX7) (hr : meth.sig.returnType = (some .int)) (hlk : meth.locks = false) (hK : tw_k D g s) (hT : tw_T g) {a0 : Nat} (h0 : tw_is g 7 a0) {Q : Int32 → tw_S → Prop} {k28 : Int32 → tw_S → Prop}
    (hk28 : ∀ (x1 : Int32) (σ : tw_S) (H : Heap) (locs : List Loc) (ls : Array Slot), k28 x1 σ → tw_w D g (tw_F g s.heap.size) s σ H locs → lv_has ls 3 [(1, .int x1)] → W p l e RM_X7_number s m args below meth c H locs 0 0 (tw_Qi Q D g below args s) (F0 m 28 ls []))
    : ∀ (n : Nat) (x1 : Int32) (x2 : Int32) (σ : tw_S) (H : Heap) (locs : List Loc) (ls : Array Slot), wl_X7_number_4 g a0 Q k28 n x1 x2 σ → tw_w D g (tw_F g s.heap.size) s σ H locs → lv_has ls 3 [(0, .ref a0), (1, .int x1), (2, .int x2)] → W p l e RM_X7_number s m args below meth c H locs 0 0 (tw_Qi Q D g below args s) (F0 m 4 ls []) := by
  intro n
  induction n with
  | zero =>
    intro x1 x2 σ H locs ls h w hl
    exact False.elim h
  | succ n ih =>
    intro x1 x2 σ H locs ls h w hl
    rw [wl_X7_number_4] at h
    refine lv_iload_n X.1 X.2.1 dX7_number_4 rfl (lv_at hl 2 rfl) ?_
    refine lv_aload_n X.1 X.2.1 dX7_number_5 rfl (lv_at hl 0 rfl) ?_
    refine tw_get X hK w 7 iw_X7_number_7 h0 (by decide) rfl 1 (by decide) (List.mem_of_getElem? (i := 1) rfl) rfl dX7_number_6 ?_
    refine lv_icmp_ge (tgt := 28) X.1 X.2.1 dX7_number_9 (by decide) (fun c1 => ?_) (fun c1 => ?_)
    · have h := h.1 c1
      exact hk28 x1 σ _ _ ls h w (lv_sub hl [1] rfl)
    · have h := h.2 c1
      refine lv_iconst (v := 2) X.1 X.2.1 dX7_number_12 (by decide) ?_
      refine lv_iload_n X.1 X.2.1 dX7_number_13 rfl (lv_at hl 1 rfl) ?_
      refine lv_imul X.1 X.2.1 dX7_number_14 ?_
      refine lv_aload_n X.1 X.2.1 dX7_number_15 rfl (lv_at hl 0 rfl) ?_
      refine lv_iload_n X.1 X.2.1 dX7_number_16 rfl (lv_at hl 2 rfl) ?_
      refine tw_ci w (va_runV (As := [.int x2]) (rest := [.int ((2 : Int32) * x1)]) X (ct_X7_letterAt l D g hT _ σ a0 h0 x2 _ h) (cwV 1 X.2.2.2.2 gX7_number_X7_letterAt rfl rfl rfl (by decide +kernel) ⟨Nat.le_of_ble_eq_true rfl, Nat.le_of_ble_eq_true rfl⟩) (tw_preV hK w h0 (by decide) rfl [.int x2]) rfl rfl hl.1 rfl (lv_room (Nat.le_of_ble_eq_true rfl)) dX7_number_17 ⟨Nat.zero_le _, Nat.zero_le _⟩) (fun r3 σ2 H locs h w => ?_)
      refine lv_iadd X.1 X.2.1 dX7_number_20 ?_
      refine lv_topi (fun z4 ez4 => ?_)
      have h := h _ ez4
      refine lv_istore_n (lv' := [(1, .int z4), (0, .ref a0), (2, .int x2)]) X.1 X.2.1 dX7_number_21 rfl hl (by decide) rfl (fun ls hl => ?_)
      refine lv_iinc (v := (x2 + 1)) (lv' := [(2, .int (x2 + 1)), (1, .int z4), (0, .ref a0)]) X.1 X.2.1 dX7_number_22 hl (k := 2) rfl rfl (by decide) rfl (fun ls hl => ?_)
      refine lv_goto (tgt := 4) X.1 X.2.1 dX7_number_25 (by decide) ?_
      exact ih z4 (x2 + 1) σ2 _ _ ls h w (lv_sub hl [2, 1, 0] rfl)
set_option maxHeartbeats 4000000 in
set_option maxRecDepth 100000 in
theorem ct_X7_number (l : Launch) (D : va_G) (g : tw_G) (hT : tw_T g) (sz : Nat) (σ : tw_S) (a0 : Nat) (h0 : tw_is g 7 a0) (Q : Int32 → tw_S → Prop) (h : wp_X7_number g σ a0 Q) : tw_Mi l yX7_number wsX7_number RM_X7_number D g sz σ [.ref a0] Q := by
  refine Met.ofW (cc := cX7_number) (maxL := 3) (ret := (some .int)) (by decide) rfl ?_
  intro p e s m args below meth c s₁ B hml hv
  obtain ⟨rfl, hsz, hP, hK, hD0⟩ := hv
  subst hsz
  have hr := B.returns
  have hlk := B.notSynchronized
  have X : CallFix p m c cX7_number 3 s _ wsX7_number RX7 := ⟨B.exec, B.bytes, hml, findClass_of_methodNamed B.named, atoms_spec (ws := wsX7_number) B.pre⟩
  have w := tw_w0 hP hD0
  have hl := lv_entry ([.ref a0]) (n := 3) (Nat.le_of_ble_eq_true rfl)
  rw [lg_entry_eq]
  generalize (lg_sl ([.ref a0]) ++ List.replicate (3 - (lg_sl ([.ref a0])).length) Slot.unset).toArray = ls at hl ⊢
  have hl : lv_has ls 3 [(0, .ref a0)] := hl
  unfold wp_X7_number at h
  refine lv_iconst (v := 1) X.1 X.2.1 dX7_number_0 (by decide) ?_
  refine lv_istore_n (lv' := [(1, .int (1 : Int32)), (0, .ref a0)]) X.1 X.2.1 dX7_number_1 rfl hl (by decide) rfl (fun ls hl => ?_)
  refine lv_iconst (v := 0) X.1 X.2.1 dX7_number_2 (by decide) ?_
  refine lv_istore_n (lv' := [(2, .int (0 : Int32)), (1, .int (1 : Int32)), (0, .ref a0)]) X.1 X.2.1 dX7_number_3 rfl hl (by decide) rfl (fun ls hl => ?_)
  obtain ⟨n4, h⟩ := h
  refine lp_X7_number_4 X hr hlk hK hT h0 (fun v5 σ6 H locs ls h w hl => ?_) n4 (1 : Int32) (0 : Int32) σ _ _ ls h w (lv_sub hl [2, 1, 0] rfl)
  · skip
    refine lv_iload_n X.1 X.2.1 dX7_number_28 rfl (lv_at hl 0 rfl) ?_
    exact tw_iret X hr hlk w h dX7_number_29

abbrev RM_X7_become : Room := { frames := 1, cells := 0, slots := 0, locals := 21 }
theorem iw_X7_become_7 : ∀ w ∈ wsX70, w ∈ wsX7_become := fun w h => List.mem_cons_of_mem _ (List.mem_append_right _ (h))
def wl_X7_become_10 (g : tw_G) (a0 : Nat) (x1 : Int32) (Q : tw_S → Prop) (k54 : tw_S → Prop) : Nat → Int32 → Int32 → tw_S → Prop
  | 0, _, _, _ => False
  | n + 1, x2, x3, σ => ((x3 < 0) → k54  σ) ∧ (¬ (x3 < 0) → ∀ z3, z3 = ((x1 >>> (x3 &&& 31)) &&& (1 : Int32)) → ((x2 = 0) → ((¬ x2 = 0) → wl_X7_become_10 g a0 x1 Q k54 n (1 : Int32) (x3 + (-1)) σ) ∧ ((x2 = 0) → ((¬ z3 = (1 : Int32)) → wl_X7_become_10 g a0 x1 Q k54 n (0 : Int32) (x3 + (-1)) σ) ∧ ((z3 = (1 : Int32)) → wl_X7_become_10 g a0 x1 Q k54 n (1 : Int32) (x3 + (-1)) σ))) ∧ (¬ (x2 = 0) → wp_X7_add g σ a0 z3 (fun r8 σ7 => ((¬ x2 = 0) → wl_X7_become_10 g a0 x1 Q k54 n (1 : Int32) (x3 + (-1)) σ7) ∧ ((x2 = 0) → ((¬ z3 = (1 : Int32)) → wl_X7_become_10 g a0 x1 Q k54 n (0 : Int32) (x3 + (-1)) σ7) ∧ ((z3 = (1 : Int32)) → wl_X7_become_10 g a0 x1 Q k54 n (1 : Int32) (x3 + (-1)) σ7)))))
def wp_X7_become (g : tw_G) (σ : tw_S) (a0 : Nat) (x1 : Int32) (Q : tw_S → Prop) : Prop := ∀ σ1, σ1 = (tw_sI σ a0 1 (0 : Int32)) → ∃ n10, wl_X7_become_10 g a0 x1 Q (fun σ11 => Q σ11) n10 (0 : Int32) (24 : Int32) σ1
set_option maxHeartbeats 4000000 in
set_option maxRecDepth 100000 in
theorem lp_X7_become_10 {p : Program} {l : Launch} {e : Env} {s : State} {m : MethodId} {args : Array Value} {below : List Frame} {meth : Method} {c : Code} {D : va_G} {g : tw_G} (X : CallFix p m c cX7_become 5 s args wsX7_become RX7) (hr : meth.sig.returnType = none) (hlk : meth.locks = false) (hK : tw_k D g s) (hT : tw_T g) {a0 : Nat} {x1 : Int32} (h0 : tw_is g 7 a0) {Q : tw_S → Prop} {k54 : tw_S → Prop}
    (hk54 : ∀  (σ : tw_S) (H : Heap) (locs : List Loc) (ls : Array Slot), k54  σ → tw_w D g (tw_F g s.heap.size) s σ H locs → lv_has ls 5 [] → W p l e RM_X7_become s m args below meth c H locs 0 0 (tw_Qv Q D g below args s) (F0 m 54 ls []))
    : ∀ (n : Nat) (x2 : Int32) (x3 : Int32) (σ : tw_S) (H : Heap) (locs : List Loc) (ls : Array Slot), wl_X7_become_10 g a0 x1 Q k54 n x2 x3 σ → tw_w D g (tw_F g s.heap.size) s σ H locs → lv_has ls 5 [(0, .ref a0), (1, .int x1), (2, .int x2), (3, .int x3)] → W p l e RM_X7_become s m args below meth c H locs 0 0 (tw_Qv Q D g below args s) (F0 m 10 ls []) := by
  intro n
  induction n with
  | zero =>
    intro x2 x3 σ H locs ls h w hl
    exact False.elim h
  | succ n ih =>
    intro x2 x3 σ H locs ls h w hl
    rw [wl_X7_become_10] at h
    refine lv_iload_n X.1 X.2.1 dX7_become_10 rfl (lv_at hl 3 rfl) ?_
    refine lv_if_lt (tgt := 54) X.1 X.2.1 dX7_become_11 (by decide) (fun c2 => ?_) (fun c2 => ?_)
    · have h := h.1 c2
      exact hk54  σ _ _ ls h w (lv_sub hl [] rfl)
    · have h := h.2 c2
      refine lv_iload_n X.1 X.2.1 dX7_become_14 rfl (lv_at hl 1 rfl) ?_
      refine lv_iload_n X.1 X.2.1 dX7_become_15 rfl (lv_at hl 3 rfl) ?_
      refine lv_ishr X.1 X.2.1 dX7_become_16 ?_
      refine lv_iconst (v := 1) X.1 X.2.1 dX7_become_17 (by decide) ?_
      refine lv_iand X.1 X.2.1 dX7_become_18 ?_
      refine lv_topi (fun z3 ez3 => ?_)
      have h := h _ ez3
      refine lv_istore (lv' := [(4, .int z3), (0, .ref a0), (1, .int x1), (2, .int x2), (3, .int x3)]) X.1 X.2.1 dX7_become_19 hl (by decide) rfl (fun ls hl => ?_)
      refine lv_iload_n X.1 X.2.1 dX7_become_21 rfl (lv_at hl 3 rfl) ?_
      refine lv_if_eq (tgt := 32) X.1 X.2.1 dX7_become_22 (by decide) (fun c4 => ?_) (fun c4 => ?_)
      · have h := h.1 c4
        refine lv_iload_n X.1 X.2.1 dX7_become_32 rfl (lv_at hl 3 rfl) ?_
        refine lv_if_ne (tgt := 42) X.1 X.2.1 dX7_become_33 (by decide) (fun c5 => ?_) (fun c5 => ?_)
        · have h := h.1 c5
          refine lv_iconst (v := 1) X.1 X.2.1 dX7_become_42 (by decide) ?_
          refine lv_goto (tgt := 47) X.1 X.2.1 dX7_become_43 (by decide) ?_
          refine lv_istore_n (lv' := [(2, .int (1 : Int32)), (4, .int z3), (0, .ref a0), (1, .int x1), (3, .int x3)]) X.1 X.2.1 dX7_become_47 rfl hl (by decide) rfl (fun ls hl => ?_)
          have hl := lv_sub (l' := [(2, .int (1 : Int32)), (0, .ref a0), (1, .int x1), (3, .int x3)]) hl [0, 2, 3, 4] rfl
          refine lv_iinc (v := (x3 + (-1))) (lv' := [(3, .int (x3 + (-1))), (2, .int (1 : Int32)), (0, .ref a0), (1, .int x1)]) X.1 X.2.1 dX7_become_48 hl (k := 3) rfl rfl (by decide) rfl (fun ls hl => ?_)
          refine lv_goto (tgt := 10) X.1 X.2.1 dX7_become_51 (by decide) ?_
          exact ih (1 : Int32) (x3 + (-1)) σ _ _ ls h w (lv_sub hl [2, 3, 1, 0] rfl)
        · have h := h.2 c5
          refine lv_iload X.1 X.2.1 dX7_become_36 (lv_at hl 0 rfl) ?_
          refine lv_iconst (v := 1) X.1 X.2.1 dX7_become_38 (by decide) ?_
          refine lv_icmp_ne (tgt := 46) X.1 X.2.1 dX7_become_39 (by decide) (fun c6 => ?_) (fun c6 => ?_)
          · have h := h.1 c6
            refine lv_iconst (v := 0) X.1 X.2.1 dX7_become_46 (by decide) ?_
            refine lv_istore_n (lv' := [(2, .int (0 : Int32)), (4, .int z3), (0, .ref a0), (1, .int x1), (3, .int x3)]) X.1 X.2.1 dX7_become_47 rfl hl (by decide) rfl (fun ls hl => ?_)
            have hl := lv_sub (l' := [(2, .int (0 : Int32)), (0, .ref a0), (1, .int x1), (3, .int x3)]) hl [0, 2, 3, 4] rfl
            refine lv_iinc (v := (x3 + (-1))) (lv' := [(3, .int (x3 + (-1))), (2, .int (0 : Int32)), (0, .ref a0), (1, .int x1)]) X.1 X.2.1 dX7_become_48 hl (k := 3) rfl rfl (by decide) rfl (fun ls hl => ?_)
            refine lv_goto (tgt := 10) X.1 X.2.1 dX7_become_51 (by decide) ?_
            exact ih (0 : Int32) (x3 + (-1)) σ _ _ ls h w (lv_sub hl [2, 3, 1, 0] rfl)
          · have h := h.2 c6
            refine lv_iconst (v := 1) X.1 X.2.1 dX7_become_42 (by decide) ?_
            refine lv_goto (tgt := 47) X.1 X.2.1 dX7_become_43 (by decide) ?_
            refine lv_istore_n (lv' := [(2, .int (1 : Int32)), (4, .int z3), (0, .ref a0), (1, .int x1), (3, .int x3)]) X.1 X.2.1 dX7_become_47 rfl hl (by decide) rfl (fun ls hl => ?_)
            have hl := lv_sub (l' := [(2, .int (1 : Int32)), (0, .ref a0), (1, .int x1), (3, .int x3)]) hl [0, 2, 3, 4] rfl
            refine lv_iinc (v := (x3 + (-1))) (lv' := [(3, .int (x3 + (-1))), (2, .int (1 : Int32)), (0, .ref a0), (1, .int x1)]) X.1 X.2.1 dX7_become_48 hl (k := 3) rfl rfl (by decide) rfl (fun ls hl => ?_)
            refine lv_goto (tgt := 10) X.1 X.2.1 dX7_become_51 (by decide) ?_
            exact ih (1 : Int32) (x3 + (-1)) σ _ _ ls h w (lv_sub hl [2, 3, 1, 0] rfl)
      · have h := h.2 c4
        refine lv_aload_n X.1 X.2.1 dX7_become_25 rfl (lv_at hl 1 rfl) ?_
        refine lv_iload X.1 X.2.1 dX7_become_26 (lv_at hl 0 rfl) ?_
        refine tw_ci w (va_runV (As := [.int z3]) (rest := []) X (ct_X7_add l D g hT _ σ a0 h0 z3 _ h) (cwV 1 X.2.2.2.2 gX7_become_X7_add rfl rfl rfl (by decide +kernel) ⟨Nat.le_of_ble_eq_true rfl, Nat.le_of_ble_eq_true rfl⟩) (tw_preV hK w h0 (by decide) rfl [.int z3]) rfl rfl hl.1 rfl (lv_room (Nat.le_of_ble_eq_true rfl)) dX7_become_28 ⟨Nat.zero_le _, Nat.zero_le _⟩) (fun r8 σ7 H locs h w => ?_)
        refine lv_pop X.1 X.2.1 dX7_become_31 rfl ?_
        refine lv_iload_n X.1 X.2.1 dX7_become_32 rfl (lv_at hl 3 rfl) ?_
        refine lv_if_ne (tgt := 42) X.1 X.2.1 dX7_become_33 (by decide) (fun c9 => ?_) (fun c9 => ?_)
        · have h := h.1 c9
          refine lv_iconst (v := 1) X.1 X.2.1 dX7_become_42 (by decide) ?_
          refine lv_goto (tgt := 47) X.1 X.2.1 dX7_become_43 (by decide) ?_
          refine lv_istore_n (lv' := [(2, .int (1 : Int32)), (4, .int z3), (0, .ref a0), (1, .int x1), (3, .int x3)]) X.1 X.2.1 dX7_become_47 rfl hl (by decide) rfl (fun ls hl => ?_)
          have hl := lv_sub (l' := [(2, .int (1 : Int32)), (0, .ref a0), (1, .int x1), (3, .int x3)]) hl [0, 2, 3, 4] rfl
          refine lv_iinc (v := (x3 + (-1))) (lv' := [(3, .int (x3 + (-1))), (2, .int (1 : Int32)), (0, .ref a0), (1, .int x1)]) X.1 X.2.1 dX7_become_48 hl (k := 3) rfl rfl (by decide) rfl (fun ls hl => ?_)
          refine lv_goto (tgt := 10) X.1 X.2.1 dX7_become_51 (by decide) ?_
          exact ih (1 : Int32) (x3 + (-1)) σ7 _ _ ls h w (lv_sub hl [2, 3, 1, 0] rfl)
        · have h := h.2 c9
          refine lv_iload X.1 X.2.1 dX7_become_36 (lv_at hl 0 rfl) ?_
          refine lv_iconst (v := 1) X.1 X.2.1 dX7_become_38 (by decide) ?_
          refine lv_icmp_ne (tgt := 46) X.1 X.2.1 dX7_become_39 (by decide) (fun c10 => ?_) (fun c10 => ?_)
          · have h := h.1 c10
            refine lv_iconst (v := 0) X.1 X.2.1 dX7_become_46 (by decide) ?_
            refine lv_istore_n (lv' := [(2, .int (0 : Int32)), (4, .int z3), (0, .ref a0), (1, .int x1), (3, .int x3)]) X.1 X.2.1 dX7_become_47 rfl hl (by decide) rfl (fun ls hl => ?_)
            have hl := lv_sub (l' := [(2, .int (0 : Int32)), (0, .ref a0), (1, .int x1), (3, .int x3)]) hl [0, 2, 3, 4] rfl
            refine lv_iinc (v := (x3 + (-1))) (lv' := [(3, .int (x3 + (-1))), (2, .int (0 : Int32)), (0, .ref a0), (1, .int x1)]) X.1 X.2.1 dX7_become_48 hl (k := 3) rfl rfl (by decide) rfl (fun ls hl => ?_)
            refine lv_goto (tgt := 10) X.1 X.2.1 dX7_become_51 (by decide) ?_
            exact ih (0 : Int32) (x3 + (-1)) σ7 _ _ ls h w (lv_sub hl [2, 3, 1, 0] rfl)
          · have h := h.2 c10
            refine lv_iconst (v := 1) X.1 X.2.1 dX7_become_42 (by decide) ?_
            refine lv_goto (tgt := 47) X.1 X.2.1 dX7_become_43 (by decide) ?_
            refine lv_istore_n (lv' := [(2, .int (1 : Int32)), (4, .int z3), (0, .ref a0), (1, .int x1), (3, .int x3)]) X.1 X.2.1 dX7_become_47 rfl hl (by decide) rfl (fun ls hl => ?_)
            have hl := lv_sub (l' := [(2, .int (1 : Int32)), (0, .ref a0), (1, .int x1), (3, .int x3)]) hl [0, 2, 3, 4] rfl
            refine lv_iinc (v := (x3 + (-1))) (lv' := [(3, .int (x3 + (-1))), (2, .int (1 : Int32)), (0, .ref a0), (1, .int x1)]) X.1 X.2.1 dX7_become_48 hl (k := 3) rfl rfl (by decide) rfl (fun ls hl => ?_)
            refine lv_goto (tgt := 10) X.1 X.2.1 dX7_become_51 (by decide) ?_
            exact ih (1 : Int32) (x3 + (-1)) σ7 _ _ ls h w (lv_sub hl [2, 3, 1, 0] rfl)
set_option maxHeartbeats 4000000 in
set_option maxRecDepth 100000 in
theorem ct_X7_become (l : Launch) (D : va_G) (g : tw_G) (hT : tw_T g) (sz : Nat) (σ : tw_S) (a0 : Nat) (h0 : tw_is g 7 a0) (x1 : Int32) (Q : tw_S → Prop) (h : wp_X7_become g σ a0 x1 Q) : tw_Mv l yX7_become wsX7_become RM_X7_become D g sz σ [.ref a0, .int x1] Q := by
  refine Met.ofW (cc := cX7_become) (maxL := 5) (ret := none) (by decide) rfl ?_
  intro p e s m args below meth c s₁ B hml hv
  obtain ⟨rfl, hsz, hP, hK, hD0⟩ := hv
  subst hsz
  have hr := B.returns
  have hlk := B.notSynchronized
  have X : CallFix p m c cX7_become 5 s _ wsX7_become RX7 := ⟨B.exec, B.bytes, hml, findClass_of_methodNamed B.named, atoms_spec (ws := wsX7_become) B.pre⟩
  have w := tw_w0 hP hD0
  have hl := lv_entry ([.ref a0, .int x1]) (n := 5) (Nat.le_of_ble_eq_true rfl)
  rw [lg_entry_eq]
  generalize (lg_sl ([.ref a0, .int x1]) ++ List.replicate (5 - (lg_sl ([.ref a0, .int x1])).length) Slot.unset).toArray = ls at hl ⊢
  have hl : lv_has ls 5 [(0, .ref a0), (1, .int x1)] := hl
  unfold wp_X7_become at h
  refine lv_aload_n X.1 X.2.1 dX7_become_0 rfl (lv_at hl 0 rfl) ?_
  refine lv_iconst (v := 0) X.1 X.2.1 dX7_become_1 (by decide) ?_
  refine tw_putI X hK w 7 iw_X7_become_7 tyX7 tyX7_ok nmX7 h0 (by decide) rfl 1 (by decide) (List.mem_of_getElem? (i := 1) rfl) rfl (ty := .int) (by decide +kernel) rfl rfl (Nat.le_of_ble_eq_true rfl) (tw_f_7_1 g _ _ _) dX7_become_2 (fun σ1 H locs eσ1 w => ?_)
  have h := h _ eσ1
  refine lv_iconst (v := 0) X.1 X.2.1 dX7_become_5 (by decide) ?_
  refine lv_istore_n (lv' := [(2, .int (0 : Int32)), (0, .ref a0), (1, .int x1)]) X.1 X.2.1 dX7_become_6 rfl hl (by decide) rfl (fun ls hl => ?_)
  refine lv_bipush (v := 24) X.1 X.2.1 dX7_become_7 (by decide) ?_
  refine lv_istore_n (lv' := [(3, .int (24 : Int32)), (2, .int (0 : Int32)), (0, .ref a0), (1, .int x1)]) X.1 X.2.1 dX7_become_9 rfl hl (by decide) rfl (fun ls hl => ?_)
  obtain ⟨n10, h⟩ := h
  refine lp_X7_become_10 X hr hlk hK hT h0 (fun σ11 H locs ls h w hl => ?_) n10 (0 : Int32) (24 : Int32) σ1 _ _ ls h w (lv_sub hl [2, 3, 1, 0] rfl)
  · skip
    exact tw_vret X hr hlk w h dX7_become_54

abbrev RM_X7_turn : Room := { frames := 0, cells := 0, slots := 0, locals := 0 }
theorem iw_X7_turn_7 : ∀ w ∈ wsX70, w ∈ wsX7_turn := fun w h => List.mem_cons_of_mem _ (List.mem_append_right _ (h))
def wl_X7_turn_9 (g : tw_G) (a0 : Nat) (Q : tw_S → Prop) (k55 : tw_S → Prop) : Nat → Int32 → Int32 → tw_S → Prop
  | 0, _, _, _ => False
  | n + 1, x1, x2, σ => ((x2 ≤ x1) → k55  σ) ∧ (¬ (x2 ≤ x1) → (((24 : Int32) ≤ x2) → k55  σ) ∧ (¬ ((24 : Int32) ≤ x2) → vp_in x1 24 ∧ ∀ z5, z5 = (tw_A σ (tw_R g a0 0) x1.toNatClampNeg) → vp_in x2 24 ∧ vp_in x1 24 ∧ ∀ σ8, σ8 = (tw_sA σ (tw_R g a0 0) (upd (tw_A σ (tw_R g a0 0)) x1.toNatClampNeg (tw_A σ (tw_R g a0 0) x2.toNatClampNeg))) → vp_in x2 24 ∧ ∀ σ10, σ10 = (tw_sA σ8 (tw_R g a0 0) (upd (tw_A σ8 (tw_R g a0 0)) x2.toNatClampNeg z5)) → wl_X7_turn_9 g a0 Q k55 n (x1 + 1) (x2 + (-1)) σ10))
def wp_X7_turn (g : tw_G) (σ : tw_S) (a0 : Nat) (Q : tw_S → Prop) : Prop := ∀ z1, z1 = ((tw_I σ a0 1) - (1 : Int32)) → ∃ n9, wl_X7_turn_9 g a0 Q (fun σ11 => Q σ11) n9 (0 : Int32) z1 σ
set_option maxHeartbeats 4000000 in
set_option maxRecDepth 100000 in
theorem lp_X7_turn_9 {p : Program} {l : Launch} {e : Env} {s : State} {m : MethodId} {args : Array Value} {below : List Frame} {meth : Method} {c : Code} {D : va_G} {g : tw_G} (X : CallFix p m c cX7_turn 4 s args wsX7_turn RX7) (hr : meth.sig.returnType = none) (hlk : meth.locks = false) (hK : tw_k D g s) (hT : tw_T g) {a0 : Nat} (h0 : tw_is g 7 a0) {Q : tw_S → Prop} {k55 : tw_S → Prop}
    (hk55 : ∀  (σ : tw_S) (H : Heap) (locs : List Loc) (ls : Array Slot), k55  σ → tw_w D g (tw_F g s.heap.size) s σ H locs → lv_has ls 4 [] → W p l e RM_X7_turn s m args below meth c H locs 0 0 (tw_Qv Q D g below args s) (F0 m 55 ls []))
    : ∀ (n : Nat) (x1 : Int32) (x2 : Int32) (σ : tw_S) (H : Heap) (locs : List Loc) (ls : Array Slot), wl_X7_turn_9 g a0 Q k55 n x1 x2 σ → tw_w D g (tw_F g s.heap.size) s σ H locs → lv_has ls 4 [(0, .ref a0), (1, .int x1), (2, .int x2)] → W p l e RM_X7_turn s m args below meth c H locs 0 0 (tw_Qv Q D g below args s) (F0 m 9 ls []) := by
  intro n
  induction n with
  | zero =>
    intro x1 x2 σ H locs ls h w hl
    exact False.elim h
  | succ n ih =>
    intro x1 x2 σ H locs ls h w hl
    rw [wl_X7_turn_9] at h
    refine lv_iload_n X.1 X.2.1 dX7_turn_9 rfl (lv_at hl 1 rfl) ?_
    refine lv_iload_n X.1 X.2.1 dX7_turn_10 rfl (lv_at hl 2 rfl) ?_
    refine lv_icmp_ge (tgt := 55) X.1 X.2.1 dX7_turn_11 (by decide) (fun c2 => ?_) (fun c2 => ?_)
    · have h := h.1 c2
      exact hk55  σ _ _ ls h w (lv_sub hl [] rfl)
    · have h := h.2 c2
      refine lv_iload_n X.1 X.2.1 dX7_turn_14 rfl (lv_at hl 2 rfl) ?_
      refine lv_bipush (v := 24) X.1 X.2.1 dX7_turn_15 (by decide) ?_
      refine lv_icmp_ge (tgt := 55) X.1 X.2.1 dX7_turn_17 (by decide) (fun c3 => ?_) (fun c3 => ?_)
      · have h := h.1 c3
        exact hk55  σ _ _ ls h w (lv_sub hl [] rfl)
      · have h := h.2 c3
        refine lv_aload_n X.1 X.2.1 dX7_turn_20 rfl (lv_at hl 0 rfl) ?_
        refine tw_get X hK w 7 iw_X7_turn_7 h0 (by decide) rfl 0 (by decide) (List.mem_of_getElem? (i := 2) rfl) rfl dX7_turn_21 ?_
        refine lv_iload_n X.1 X.2.1 dX7_turn_24 rfl (lv_at hl 1 rfl) ?_
        obtain ⟨hi4, h⟩ := h
        refine tw_iald X hK w (tw_t_7_0 hT h0) (tw_n_7_0 hT h0) hi4 dX7_turn_25 ?_
        refine lv_topi (fun z5 ez5 => ?_)
        have h := h _ ez5
        refine lv_istore_n (lv' := [(3, .int z5), (0, .ref a0), (1, .int x1), (2, .int x2)]) X.1 X.2.1 dX7_turn_26 rfl hl (by decide) rfl (fun ls hl => ?_)
        refine lv_aload_n X.1 X.2.1 dX7_turn_27 rfl (lv_at hl 1 rfl) ?_
        refine tw_get X hK w 7 iw_X7_turn_7 h0 (by decide) rfl 0 (by decide) (List.mem_of_getElem? (i := 2) rfl) rfl dX7_turn_28 ?_
        refine lv_iload_n X.1 X.2.1 dX7_turn_31 rfl (lv_at hl 2 rfl) ?_
        refine lv_aload_n X.1 X.2.1 dX7_turn_32 rfl (lv_at hl 1 rfl) ?_
        refine tw_get X hK w 7 iw_X7_turn_7 h0 (by decide) rfl 0 (by decide) (List.mem_of_getElem? (i := 2) rfl) rfl dX7_turn_33 ?_
        refine lv_iload_n X.1 X.2.1 dX7_turn_36 rfl (lv_at hl 3 rfl) ?_
        obtain ⟨hi6, h⟩ := h
        refine tw_iald X hK w (tw_t_7_0 hT h0) (tw_n_7_0 hT h0) hi6 dX7_turn_37 ?_
        obtain ⟨hi7, h⟩ := h
        refine tw_iast X hK w (tw_t_7_0 hT h0) (tw_n_7_0 hT h0) hi7 dX7_turn_38 (fun σ8 H locs eσ8 w => ?_)
        have h := h _ eσ8
        refine lv_aload_n X.1 X.2.1 dX7_turn_39 rfl (lv_at hl 1 rfl) ?_
        refine tw_get X hK w 7 iw_X7_turn_7 h0 (by decide) rfl 0 (by decide) (List.mem_of_getElem? (i := 2) rfl) rfl dX7_turn_40 ?_
        refine lv_iload_n X.1 X.2.1 dX7_turn_43 rfl (lv_at hl 3 rfl) ?_
        refine lv_iload_n X.1 X.2.1 dX7_turn_44 rfl (lv_at hl 0 rfl) ?_
        obtain ⟨hi9, h⟩ := h
        refine tw_iast X hK w (tw_t_7_0 hT h0) (tw_n_7_0 hT h0) hi9 dX7_turn_45 (fun σ10 H locs eσ10 w => ?_)
        have h := h _ eσ10
        refine lv_iinc (v := (x1 + 1)) (lv' := [(1, .int (x1 + 1)), (3, .int z5), (0, .ref a0), (2, .int x2)]) X.1 X.2.1 dX7_turn_46 hl (k := 2) rfl rfl (by decide) rfl (fun ls hl => ?_)
        refine lv_iinc (v := (x2 + (-1))) (lv' := [(2, .int (x2 + (-1))), (1, .int (x1 + 1)), (3, .int z5), (0, .ref a0)]) X.1 X.2.1 dX7_turn_49 hl (k := 3) rfl rfl (by decide) rfl (fun ls hl => ?_)
        refine lv_goto (tgt := 9) X.1 X.2.1 dX7_turn_52 (by decide) ?_
        exact ih (x1 + 1) (x2 + (-1)) σ10 _ _ ls h w (lv_sub hl [3, 1, 0] rfl)
set_option maxHeartbeats 4000000 in
set_option maxRecDepth 100000 in
theorem ct_X7_turn (l : Launch) (D : va_G) (g : tw_G) (hT : tw_T g) (sz : Nat) (σ : tw_S) (a0 : Nat) (h0 : tw_is g 7 a0) (Q : tw_S → Prop) (h : wp_X7_turn g σ a0 Q) : tw_Mv l yX7_turn wsX7_turn RM_X7_turn D g sz σ [.ref a0] Q := by
  refine Met.ofW (cc := cX7_turn) (maxL := 4) (ret := none) (by decide) rfl ?_
  intro p e s m args below meth c s₁ B hml hv
  obtain ⟨rfl, hsz, hP, hK, hD0⟩ := hv
  subst hsz
  have hr := B.returns
  have hlk := B.notSynchronized
  have X : CallFix p m c cX7_turn 4 s _ wsX7_turn RX7 := ⟨B.exec, B.bytes, hml, findClass_of_methodNamed B.named, atoms_spec (ws := wsX7_turn) B.pre⟩
  have w := tw_w0 hP hD0
  have hl := lv_entry ([.ref a0]) (n := 4) (Nat.le_of_ble_eq_true rfl)
  rw [lg_entry_eq]
  generalize (lg_sl ([.ref a0]) ++ List.replicate (4 - (lg_sl ([.ref a0])).length) Slot.unset).toArray = ls at hl ⊢
  have hl : lv_has ls 4 [(0, .ref a0)] := hl
  unfold wp_X7_turn at h
  refine lv_iconst (v := 0) X.1 X.2.1 dX7_turn_0 (by decide) ?_
  refine lv_istore_n (lv' := [(1, .int (0 : Int32)), (0, .ref a0)]) X.1 X.2.1 dX7_turn_1 rfl hl (by decide) rfl (fun ls hl => ?_)
  refine lv_aload_n X.1 X.2.1 dX7_turn_2 rfl (lv_at hl 1 rfl) ?_
  refine tw_get X hK w 7 iw_X7_turn_7 h0 (by decide) rfl 1 (by decide) (List.mem_of_getElem? (i := 1) rfl) rfl dX7_turn_3 ?_
  refine lv_iconst (v := 1) X.1 X.2.1 dX7_turn_6 (by decide) ?_
  refine lv_isub X.1 X.2.1 dX7_turn_7 ?_
  refine lv_topi (fun z1 ez1 => ?_)
  have h := h _ ez1
  refine lv_istore_n (lv' := [(2, .int z1), (1, .int (0 : Int32)), (0, .ref a0)]) X.1 X.2.1 dX7_turn_8 rfl hl (by decide) rfl (fun ls hl => ?_)
  obtain ⟨n9, h⟩ := h
  refine lp_X7_turn_9 X hr hlk hK hT h0 (fun σ11 H locs ls h w hl => ?_) n9 (0 : Int32) z1 σ _ _ ls h w (lv_sub hl [2, 1, 0] rfl)
  · skip
    exact tw_vret X hr hlk w h dX7_turn_55

abbrev RM_X1_arrive : Room := { frames := 1, cells := 0, slots := 0, locals := 20 }
theorem iw_X1_arrive_1 : ∀ w ∈ wsX10, w ∈ wsX1_arrive := fun w h => List.mem_cons_of_mem _ (List.mem_append_left _ (List.mem_append_right _ (h)))
def wp_X1_arrive (g : tw_G) (σ : tw_S) (a0 : Nat) (a1 : Nat) (Q : tw_S → Prop) : Prop := ((0 ≤ (tw_I σ a0 5)) → wp_X7_length g σ a1 (fun r3 σ2 => (((r3 + (1 : Int32)) < (tw_I σ a0 5)) → ∀ σ5, σ5 = (tw_sI σ2 a0 6 (0 : Int32)) → Q σ5) ∧ (¬ ((r3 + (1 : Int32)) < (tw_I σ a0 5)) → (((tw_I σ2 a0 5) < (26 : Int32)) → vp_in (tw_I σ2 a0 5) 26 ∧ ((¬ (((tw_A σ2 (tw_R g a0 0) (tw_I σ2 a0 5).toNatClampNeg) >>> ((tw_I σ2 a0 4) &&& 31)) &&& (1 : Int32)) = (1 : Int32)) → vp_in (tw_I σ2 a0 5) 26 ∧ vp_in (tw_I σ2 a0 5) 26 ∧ ∀ σ11, σ11 = (tw_sA σ2 (tw_R g a0 0) (upd (tw_A σ2 (tw_R g a0 0)) (tw_I σ2 a0 5).toNatClampNeg ((tw_A σ2 (tw_R g a0 0) (tw_I σ2 a0 5).toNatClampNeg) ||| ((1 : Int32) <<< ((tw_I σ2 a0 4) &&& 31))))) → Q σ11) ∧ (((((tw_A σ2 (tw_R g a0 0) (tw_I σ2 a0 5).toNatClampNeg) >>> ((tw_I σ2 a0 4) &&& 31)) &&& (1 : Int32)) = (1 : Int32)) → ∀ σ12, σ12 = (tw_sI σ2 a0 6 (3 : Int32)) → Q σ12)) ∧ (¬ ((tw_I σ2 a0 5) < (26 : Int32)) → ∀ σ13, σ13 = (tw_sI σ2 a0 6 (0 : Int32)) → Q σ13)))) ∧ (¬ (0 ≤ (tw_I σ a0 5)) → ∀ σ14, σ14 = (tw_sI σ a0 6 (2 : Int32)) → Q σ14)
set_option maxHeartbeats 4000000 in
set_option maxRecDepth 100000 in
theorem ct_X1_arrive (l : Launch) (D : va_G) (g : tw_G) (hT : tw_T g) (sz : Nat) (σ : tw_S) (a0 : Nat) (h0 : tw_is g 1 a0) (a1 : Nat) (h1 : tw_is g 7 a1) (Q : tw_S → Prop) (h : wp_X1_arrive g σ a0 a1 Q) : tw_Mv l yX1_arrive wsX1_arrive RM_X1_arrive D g sz σ [.ref a0, .ref a1] Q := by
  refine Met.ofW (cc := cX1_arrive) (maxL := 2) (ret := none) (by decide) rfl ?_
  intro p e s m args below meth c s₁ B hml hv
  obtain ⟨rfl, hsz, hP, hK, hD0⟩ := hv
  subst hsz
  have hr := B.returns
  have hlk := B.notSynchronized
  have X : CallFix p m c cX1_arrive 2 s _ wsX1_arrive RX1 := ⟨B.exec, B.bytes, hml, findClass_of_methodNamed B.named, atoms_spec (ws := wsX1_arrive) B.pre⟩
  have w := tw_w0 hP hD0
  have hl := lv_entry ([.ref a0, .ref a1]) (n := 2) (Nat.le_of_ble_eq_true rfl)
  rw [lg_entry_eq]
  generalize (lg_sl ([.ref a0, .ref a1]) ++ List.replicate (2 - (lg_sl ([.ref a0, .ref a1])).length) Slot.unset).toArray = ls at hl ⊢
  have hl : lv_has ls 2 [(0, .ref a0), (1, .ref a1)] := hl
  unfold wp_X1_arrive at h
  refine lv_aload_n X.1 X.2.1 dX1_arrive_0 rfl (lv_at hl 0 rfl) ?_
  refine tw_get X hK w 1 iw_X1_arrive_1 h0 (by decide) rfl 5 (by decide) (List.mem_of_getElem? (i := 1) rfl) rfl dX1_arrive_1 ?_
  refine lv_if_ge (tgt := 15) X.1 X.2.1 dX1_arrive_4 (by decide) (fun c1 => ?_) (fun c1 => ?_)
  · have h := h.1 c1
    refine lv_aload_n X.1 X.2.1 dX1_arrive_15 rfl (lv_at hl 0 rfl) ?_
    refine tw_get X hK w 1 iw_X1_arrive_1 h0 (by decide) rfl 5 (by decide) (List.mem_of_getElem? (i := 1) rfl) rfl dX1_arrive_16 ?_
    refine lv_aload_n X.1 X.2.1 dX1_arrive_19 rfl (lv_at hl 1 rfl) ?_
    refine tw_ci w (va_runV (As := []) (rest := [.int (tw_I σ a0 5)]) X (ct_X7_length l D g hT _ σ a1 h1 _ h) (cwV 0 X.2.2.2.2 gX1_arrive_X7_length rfl rfl rfl (by decide +kernel) ⟨Nat.le_of_ble_eq_true rfl, Nat.le_of_ble_eq_true rfl⟩) (tw_preV hK w h1 (by decide) rfl []) rfl rfl hl.1 rfl (lv_room (Nat.le_of_ble_eq_true rfl)) dX1_arrive_20 ⟨Nat.zero_le _, Nat.zero_le _⟩) (fun r3 σ2 H locs h w => ?_)
    refine lv_iconst (v := 1) X.1 X.2.1 dX1_arrive_23 (by decide) ?_
    refine lv_iadd X.1 X.2.1 dX1_arrive_24 ?_
    refine lv_icmp_gt (tgt := 37) X.1 X.2.1 dX1_arrive_25 (by decide) (fun c4 => ?_) (fun c4 => ?_)
    · have h := h.1 c4
      refine lv_aload_n X.1 X.2.1 dX1_arrive_37 rfl (lv_at hl 0 rfl) ?_
      refine lv_iconst (v := 0) X.1 X.2.1 dX1_arrive_38 (by decide) ?_
      refine tw_putI X hK w 1 iw_X1_arrive_1 tyX1 tyX1_ok nmX1 h0 (by decide) rfl 6 (by decide) (List.mem_of_getElem? (i := 2) rfl) rfl (ty := .int) (by decide +kernel) rfl rfl (Nat.le_of_ble_eq_true rfl) (tw_f_1_6 g _ _ _) dX1_arrive_39 (fun σ5 H locs eσ5 w => ?_)
      have h := h _ eσ5
      refine lv_goto (tgt := 91) X.1 X.2.1 dX1_arrive_42 (by decide) ?_
      exact tw_vret X hr hlk w h dX1_arrive_91
    · have h := h.2 c4
      refine lv_aload_n X.1 X.2.1 dX1_arrive_28 rfl (lv_at hl 0 rfl) ?_
      refine tw_get X hK w 1 iw_X1_arrive_1 h0 (by decide) rfl 5 (by decide) (List.mem_of_getElem? (i := 1) rfl) rfl dX1_arrive_29 ?_
      refine lv_bipush (v := 26) X.1 X.2.1 dX1_arrive_32 (by decide) ?_
      refine lv_icmp_lt (tgt := 45) X.1 X.2.1 dX1_arrive_34 (by decide) (fun c6 => ?_) (fun c6 => ?_)
      · have h := h.1 c6
        refine lv_aload_n X.1 X.2.1 dX1_arrive_45 rfl (lv_at hl 0 rfl) ?_
        refine tw_get X hK w 1 iw_X1_arrive_1 h0 (by decide) rfl 0 (by decide) (List.mem_of_getElem? (i := 3) rfl) rfl dX1_arrive_46 ?_
        refine lv_aload_n X.1 X.2.1 dX1_arrive_49 rfl (lv_at hl 0 rfl) ?_
        refine tw_get X hK w 1 iw_X1_arrive_1 h0 (by decide) rfl 5 (by decide) (List.mem_of_getElem? (i := 1) rfl) rfl dX1_arrive_50 ?_
        obtain ⟨hi7, h⟩ := h
        refine tw_iald X hK w (tw_t_1_0 hT h0) (tw_n_1_0 hT h0) hi7 dX1_arrive_53 ?_
        refine lv_aload_n X.1 X.2.1 dX1_arrive_54 rfl (lv_at hl 0 rfl) ?_
        refine tw_get X hK w 1 iw_X1_arrive_1 h0 (by decide) rfl 4 (by decide) (List.mem_of_getElem? (i := 4) rfl) rfl dX1_arrive_55 ?_
        refine lv_ishr X.1 X.2.1 dX1_arrive_58 ?_
        refine lv_iconst (v := 1) X.1 X.2.1 dX1_arrive_59 (by decide) ?_
        refine lv_iand X.1 X.2.1 dX1_arrive_60 ?_
        refine lv_iconst (v := 1) X.1 X.2.1 dX1_arrive_61 (by decide) ?_
        refine lv_icmp_ne (tgt := 73) X.1 X.2.1 dX1_arrive_62 (by decide) (fun c8 => ?_) (fun c8 => ?_)
        · have h := h.1 c8
          refine lv_aload_n X.1 X.2.1 dX1_arrive_73 rfl (lv_at hl 0 rfl) ?_
          refine tw_get X hK w 1 iw_X1_arrive_1 h0 (by decide) rfl 0 (by decide) (List.mem_of_getElem? (i := 3) rfl) rfl dX1_arrive_74 ?_
          refine lv_aload_n X.1 X.2.1 dX1_arrive_77 rfl (lv_at hl 0 rfl) ?_
          refine tw_get X hK w 1 iw_X1_arrive_1 h0 (by decide) rfl 5 (by decide) (List.mem_of_getElem? (i := 1) rfl) rfl dX1_arrive_78 ?_
          refine lv_dup2_11 X.1 X.2.1 dX1_arrive_81 rfl rfl ?_
          obtain ⟨hi9, h⟩ := h
          refine tw_iald X hK w (tw_t_1_0 hT h0) (tw_n_1_0 hT h0) hi9 dX1_arrive_82 ?_
          refine lv_iconst (v := 1) X.1 X.2.1 dX1_arrive_83 (by decide) ?_
          refine lv_aload_n X.1 X.2.1 dX1_arrive_84 rfl (lv_at hl 0 rfl) ?_
          refine tw_get X hK w 1 iw_X1_arrive_1 h0 (by decide) rfl 4 (by decide) (List.mem_of_getElem? (i := 4) rfl) rfl dX1_arrive_85 ?_
          refine lv_ishl X.1 X.2.1 dX1_arrive_88 ?_
          refine lv_ior X.1 X.2.1 dX1_arrive_89 ?_
          obtain ⟨hi10, h⟩ := h
          refine tw_iast X hK w (tw_t_1_0 hT h0) (tw_n_1_0 hT h0) hi10 dX1_arrive_90 (fun σ11 H locs eσ11 w => ?_)
          have h := h _ eσ11
          exact tw_vret X hr hlk w h dX1_arrive_91
        · have h := h.2 c8
          refine lv_aload_n X.1 X.2.1 dX1_arrive_65 rfl (lv_at hl 0 rfl) ?_
          refine lv_iconst (v := 3) X.1 X.2.1 dX1_arrive_66 (by decide) ?_
          refine tw_putI X hK w 1 iw_X1_arrive_1 tyX1 tyX1_ok nmX1 h0 (by decide) rfl 6 (by decide) (List.mem_of_getElem? (i := 2) rfl) rfl (ty := .int) (by decide +kernel) rfl rfl (Nat.le_of_ble_eq_true rfl) (tw_f_1_6 g _ _ _) dX1_arrive_67 (fun σ12 H locs eσ12 w => ?_)
          have h := h _ eσ12
          refine lv_goto (tgt := 91) X.1 X.2.1 dX1_arrive_70 (by decide) ?_
          exact tw_vret X hr hlk w h dX1_arrive_91
      · have h := h.2 c6
        refine lv_aload_n X.1 X.2.1 dX1_arrive_37 rfl (lv_at hl 0 rfl) ?_
        refine lv_iconst (v := 0) X.1 X.2.1 dX1_arrive_38 (by decide) ?_
        refine tw_putI X hK w 1 iw_X1_arrive_1 tyX1 tyX1_ok nmX1 h0 (by decide) rfl 6 (by decide) (List.mem_of_getElem? (i := 2) rfl) rfl (ty := .int) (by decide +kernel) rfl rfl (Nat.le_of_ble_eq_true rfl) (tw_f_1_6 g _ _ _) dX1_arrive_39 (fun σ13 H locs eσ13 w => ?_)
        have h := h _ eσ13
        refine lv_goto (tgt := 91) X.1 X.2.1 dX1_arrive_42 (by decide) ?_
        exact tw_vret X hr hlk w h dX1_arrive_91
  · have h := h.2 c1
    refine lv_aload_n X.1 X.2.1 dX1_arrive_7 rfl (lv_at hl 0 rfl) ?_
    refine lv_iconst (v := 2) X.1 X.2.1 dX1_arrive_8 (by decide) ?_
    refine tw_putI X hK w 1 iw_X1_arrive_1 tyX1 tyX1_ok nmX1 h0 (by decide) rfl 6 (by decide) (List.mem_of_getElem? (i := 2) rfl) rfl (ty := .int) (by decide +kernel) rfl rfl (Nat.le_of_ble_eq_true rfl) (tw_f_1_6 g _ _ _) dX1_arrive_9 (fun σ14 H locs eσ14 w => ?_)
    have h := h _ eσ14
    refine lv_goto (tgt := 91) X.1 X.2.1 dX1_arrive_12 (by decide) ?_
    exact tw_vret X hr hlk w h dX1_arrive_91

abbrev RM_X8_stateOf : Room := { frames := 0, cells := 0, slots := 0, locals := 0 }
def wp_X8_stateOf (g : tw_G) (σ : tw_S) (x0 : Int32) (Q : Int32 → tw_S → Prop) : Prop := Q (x0 >>> ((1 : Int32) &&& 31)) σ
set_option maxHeartbeats 4000000 in
set_option maxRecDepth 100000 in
theorem ct_X8_stateOf (l : Launch) (D : va_G) (g : tw_G) (hT : tw_T g) (sz : Nat) (σ : tw_S) (x0 : Int32) (Q : Int32 → tw_S → Prop) (h : wp_X8_stateOf g σ x0 Q) : tw_Mi l yX8_stateOf wsX8_stateOf RM_X8_stateOf D g sz σ [.int x0] Q := by
  refine Met.ofW (cc := cX8_stateOf) (maxL := 1) (ret := (some .int)) (by decide) rfl ?_
  intro p e s m args below meth c s₁ B hml hv
  obtain ⟨rfl, hsz, hP, hK, hD0⟩ := hv
  subst hsz
  have hr := B.returns
  have hlk := B.notSynchronized
  have X : CallFix p m c cX8_stateOf 1 s _ wsX8_stateOf RX8 := ⟨B.exec, B.bytes, hml, findClass_of_methodNamed B.named, atoms_spec (ws := wsX8_stateOf) B.pre⟩
  have w := tw_w0 hP hD0
  have hl := lv_entry ([.int x0]) (n := 1) (Nat.le_of_ble_eq_true rfl)
  rw [lg_entry_eq]
  generalize (lg_sl ([.int x0]) ++ List.replicate (1 - (lg_sl ([.int x0])).length) Slot.unset).toArray = ls at hl ⊢
  have hl : lv_has ls 1 [(0, .int x0)] := hl
  unfold wp_X8_stateOf at h
  refine lv_iload_n X.1 X.2.1 dX8_stateOf_0 rfl (lv_at hl 0 rfl) ?_
  refine lv_iconst (v := 1) X.1 X.2.1 dX8_stateOf_1 (by decide) ?_
  refine lv_ishr X.1 X.2.1 dX8_stateOf_2 ?_
  exact tw_iret X hr hlk w h dX8_stateOf_3

abbrev RM_X8_sideOf : Room := { frames := 0, cells := 0, slots := 0, locals := 0 }
def wp_X8_sideOf (g : tw_G) (σ : tw_S) (x0 : Int32) (Q : Int32 → tw_S → Prop) : Prop := Q (x0 &&& (1 : Int32)) σ
set_option maxHeartbeats 4000000 in
set_option maxRecDepth 100000 in
theorem ct_X8_sideOf (l : Launch) (D : va_G) (g : tw_G) (hT : tw_T g) (sz : Nat) (σ : tw_S) (x0 : Int32) (Q : Int32 → tw_S → Prop) (h : wp_X8_sideOf g σ x0 Q) : tw_Mi l yX8_sideOf wsX8_sideOf RM_X8_sideOf D g sz σ [.int x0] Q := by
  refine Met.ofW (cc := cX8_sideOf) (maxL := 1) (ret := (some .int)) (by decide) rfl ?_
  intro p e s m args below meth c s₁ B hml hv
  obtain ⟨rfl, hsz, hP, hK, hD0⟩ := hv
  subst hsz
  have hr := B.returns
  have hlk := B.notSynchronized
  have X : CallFix p m c cX8_sideOf 1 s _ wsX8_sideOf RX8 := ⟨B.exec, B.bytes, hml, findClass_of_methodNamed B.named, atoms_spec (ws := wsX8_sideOf) B.pre⟩
  have w := tw_w0 hP hD0
  have hl := lv_entry ([.int x0]) (n := 1) (Nat.le_of_ble_eq_true rfl)
  rw [lg_entry_eq]
  generalize (lg_sl ([.int x0]) ++ List.replicate (1 - (lg_sl ([.int x0])).length) Slot.unset).toArray = ls at hl ⊢
  have hl : lv_has ls 1 [(0, .int x0)] := hl
  unfold wp_X8_sideOf at h
  refine lv_iload_n X.1 X.2.1 dX8_sideOf_0 rfl (lv_at hl 0 rfl) ?_
  refine lv_iconst (v := 1) X.1 X.2.1 dX8_sideOf_1 (by decide) ?_
  refine lv_iand X.1 X.2.1 dX8_sideOf_2 ?_
  exact tw_iret X hr hlk w h dX8_sideOf_3

abbrev RM_X8_shift : Room := { frames := 1, cells := 0, slots := 0, locals := 20 }
def wp_X8_shift (g : tw_G) (σ : tw_S) (x0 : Int32) (Q : Int32 → tw_S → Prop) : Prop := wp_X8_sideOf g σ x0 (fun r2 σ1 => ((¬ r2 = (1 : Int32)) → Q (-1 : Int32) σ1) ∧ ((r2 = (1 : Int32)) → Q (1 : Int32) σ1))
set_option maxHeartbeats 4000000 in
set_option maxRecDepth 100000 in
theorem ct_X8_shift (l : Launch) (D : va_G) (g : tw_G) (hT : tw_T g) (sz : Nat) (σ : tw_S) (x0 : Int32) (Q : Int32 → tw_S → Prop) (h : wp_X8_shift g σ x0 Q) : tw_Mi l yX8_shift wsX8_shift RM_X8_shift D g sz σ [.int x0] Q := by
  refine Met.ofW (cc := cX8_shift) (maxL := 1) (ret := (some .int)) (by decide) rfl ?_
  intro p e s m args below meth c s₁ B hml hv
  obtain ⟨rfl, hsz, hP, hK, hD0⟩ := hv
  subst hsz
  have hr := B.returns
  have hlk := B.notSynchronized
  have X : CallFix p m c cX8_shift 1 s _ wsX8_shift RX8 := ⟨B.exec, B.bytes, hml, findClass_of_methodNamed B.named, atoms_spec (ws := wsX8_shift) B.pre⟩
  have w := tw_w0 hP hD0
  have hl := lv_entry ([.int x0]) (n := 1) (Nat.le_of_ble_eq_true rfl)
  rw [lg_entry_eq]
  generalize (lg_sl ([.int x0]) ++ List.replicate (1 - (lg_sl ([.int x0])).length) Slot.unset).toArray = ls at hl ⊢
  have hl : lv_has ls 1 [(0, .int x0)] := hl
  unfold wp_X8_shift at h
  refine lv_iload_n X.1 X.2.1 dX8_shift_0 rfl (lv_at hl 0 rfl) ?_
  refine tw_ci w (va_runS (As := [.int x0]) (rest := []) X (ct_X8_sideOf l D g hT _ σ x0 _ h) (va_cwS 1 X.2.2.2.2 gX8_shift_X8_sideOf rfl rfl rfl (by decide +kernel) ⟨Nat.le_of_ble_eq_true rfl, Nat.le_of_ble_eq_true rfl⟩) (tw_pre hK w [.int x0]) rfl rfl hl.1 rfl (lv_room (Nat.le_of_ble_eq_true rfl)) dX8_shift_1 ⟨Nat.zero_le _, Nat.zero_le _⟩) (fun r2 σ1 H locs h w => ?_)
  refine lv_iconst (v := 1) X.1 X.2.1 dX8_shift_4 (by decide) ?_
  refine lv_icmp_ne (tgt := 12) X.1 X.2.1 dX8_shift_5 (by decide) (fun c3 => ?_) (fun c3 => ?_)
  · have h := h.1 c3
    refine lv_iconst (v := -1) X.1 X.2.1 dX8_shift_12 (by decide) ?_
    exact tw_iret X hr hlk w h dX8_shift_13
  · have h := h.2 c3
    refine lv_iconst (v := 1) X.1 X.2.1 dX8_shift_8 (by decide) ?_
    refine lv_goto (tgt := 13) X.1 X.2.1 dX8_shift_9 (by decide) ?_
    exact tw_iret X hr hlk w h dX8_shift_13

abbrev RM_X1_note : Room := { frames := 0, cells := 0, slots := 0, locals := 0 }
theorem iw_X1_note_1 : ∀ w ∈ wsX10, w ∈ wsX1_note := fun w h => List.mem_cons_of_mem _ (List.mem_append_right _ (h))
def wp_X1_note (g : tw_G) (σ : tw_S) (a0 : Nat) (x1 : Int32) (Q : tw_S → Prop) : Prop := (((tw_I σ a0 3) < 0) → Q σ) ∧ (¬ ((tw_I σ a0 3) < 0) → (((104 : Int32) ≤ (tw_I σ a0 3)) → Q σ) ∧ (¬ ((104 : Int32) ≤ (tw_I σ a0 3)) → vp_in (tw_I σ a0 3) 104 ∧ ∀ σ4, σ4 = (tw_sA σ (tw_R g a0 1) (upd (tw_A σ (tw_R g a0 1)) (tw_I σ a0 3).toNatClampNeg x1)) → vp_in (tw_I σ4 a0 3) 104 ∧ ∀ σ6, σ6 = (tw_sA σ4 (tw_R g a0 2) (upd (tw_A σ4 (tw_R g a0 2)) (tw_I σ4 a0 3).toNatClampNeg (tw_I σ4 a0 4))) → ∀ σ7, σ7 = (tw_sI σ6 a0 3 ((tw_I σ6 a0 3) + (1 : Int32))) → Q σ7))
set_option maxHeartbeats 4000000 in
set_option maxRecDepth 100000 in
theorem ct_X1_note (l : Launch) (D : va_G) (g : tw_G) (hT : tw_T g) (sz : Nat) (σ : tw_S) (a0 : Nat) (h0 : tw_is g 1 a0) (x1 : Int32) (Q : tw_S → Prop) (h : wp_X1_note g σ a0 x1 Q) : tw_Mv l yX1_note wsX1_note RM_X1_note D g sz σ [.ref a0, .int x1] Q := by
  refine Met.ofW (cc := cX1_note) (maxL := 2) (ret := none) (by decide) rfl ?_
  intro p e s m args below meth c s₁ B hml hv
  obtain ⟨rfl, hsz, hP, hK, hD0⟩ := hv
  subst hsz
  have hr := B.returns
  have hlk := B.notSynchronized
  have X : CallFix p m c cX1_note 2 s _ wsX1_note RX1 := ⟨B.exec, B.bytes, hml, findClass_of_methodNamed B.named, atoms_spec (ws := wsX1_note) B.pre⟩
  have w := tw_w0 hP hD0
  have hl := lv_entry ([.ref a0, .int x1]) (n := 2) (Nat.le_of_ble_eq_true rfl)
  rw [lg_entry_eq]
  generalize (lg_sl ([.ref a0, .int x1]) ++ List.replicate (2 - (lg_sl ([.ref a0, .int x1])).length) Slot.unset).toArray = ls at hl ⊢
  have hl : lv_has ls 2 [(0, .ref a0), (1, .int x1)] := hl
  unfold wp_X1_note at h
  refine lv_aload_n X.1 X.2.1 dX1_note_0 rfl (lv_at hl 0 rfl) ?_
  refine tw_get X hK w 1 iw_X1_note_1 h0 (by decide) rfl 3 (by decide) (List.mem_of_getElem? (i := 1) rfl) rfl dX1_note_1 ?_
  refine lv_if_lt (tgt := 49) X.1 X.2.1 dX1_note_4 (by decide) (fun c1 => ?_) (fun c1 => ?_)
  · have h := h.1 c1
    exact tw_vret X hr hlk w h dX1_note_49
  · have h := h.2 c1
    refine lv_aload_n X.1 X.2.1 dX1_note_7 rfl (lv_at hl 0 rfl) ?_
    refine tw_get X hK w 1 iw_X1_note_1 h0 (by decide) rfl 3 (by decide) (List.mem_of_getElem? (i := 1) rfl) rfl dX1_note_8 ?_
    refine lv_bipush (v := 104) X.1 X.2.1 dX1_note_11 (by decide) ?_
    refine lv_icmp_ge (tgt := 49) X.1 X.2.1 dX1_note_13 (by decide) (fun c2 => ?_) (fun c2 => ?_)
    · have h := h.1 c2
      exact tw_vret X hr hlk w h dX1_note_49
    · have h := h.2 c2
      refine lv_aload_n X.1 X.2.1 dX1_note_16 rfl (lv_at hl 0 rfl) ?_
      refine tw_get X hK w 1 iw_X1_note_1 h0 (by decide) rfl 1 (by decide) (List.mem_of_getElem? (i := 2) rfl) rfl dX1_note_17 ?_
      refine lv_aload_n X.1 X.2.1 dX1_note_20 rfl (lv_at hl 0 rfl) ?_
      refine tw_get X hK w 1 iw_X1_note_1 h0 (by decide) rfl 3 (by decide) (List.mem_of_getElem? (i := 1) rfl) rfl dX1_note_21 ?_
      refine lv_iload_n X.1 X.2.1 dX1_note_24 rfl (lv_at hl 1 rfl) ?_
      obtain ⟨hi3, h⟩ := h
      refine tw_iast X hK w (tw_t_1_1 hT h0) (tw_n_1_1 hT h0) hi3 dX1_note_25 (fun σ4 H locs eσ4 w => ?_)
      have h := h _ eσ4
      refine lv_aload_n X.1 X.2.1 dX1_note_26 rfl (lv_at hl 0 rfl) ?_
      refine tw_get X hK w 1 iw_X1_note_1 h0 (by decide) rfl 2 (by decide) (List.mem_of_getElem? (i := 3) rfl) rfl dX1_note_27 ?_
      refine lv_aload_n X.1 X.2.1 dX1_note_30 rfl (lv_at hl 0 rfl) ?_
      refine tw_get X hK w 1 iw_X1_note_1 h0 (by decide) rfl 3 (by decide) (List.mem_of_getElem? (i := 1) rfl) rfl dX1_note_31 ?_
      refine lv_aload_n X.1 X.2.1 dX1_note_34 rfl (lv_at hl 0 rfl) ?_
      refine tw_get X hK w 1 iw_X1_note_1 h0 (by decide) rfl 4 (by decide) (List.mem_of_getElem? (i := 4) rfl) rfl dX1_note_35 ?_
      obtain ⟨hi5, h⟩ := h
      refine tw_iast X hK w (tw_t_1_2 hT h0) (tw_n_1_2 hT h0) hi5 dX1_note_38 (fun σ6 H locs eσ6 w => ?_)
      have h := h _ eσ6
      refine lv_aload_n X.1 X.2.1 dX1_note_39 rfl (lv_at hl 0 rfl) ?_
      refine lv_dup X.1 X.2.1 dX1_note_40 rfl ?_
      refine tw_get X hK w 1 iw_X1_note_1 h0 (by decide) rfl 3 (by decide) (List.mem_of_getElem? (i := 1) rfl) rfl dX1_note_41 ?_
      refine lv_iconst (v := 1) X.1 X.2.1 dX1_note_44 (by decide) ?_
      refine lv_iadd X.1 X.2.1 dX1_note_45 ?_
      refine tw_putI X hK w 1 iw_X1_note_1 tyX1 tyX1_ok nmX1 h0 (by decide) rfl 3 (by decide) (List.mem_of_getElem? (i := 1) rfl) rfl (ty := .int) (by decide +kernel) rfl rfl (Nat.le_of_ble_eq_true rfl) (tw_f_1_3 g _ _ _) dX1_note_46 (fun σ7 H locs eσ7 w => ?_)
      have h := h _ eσ7
      exact tw_vret X hr hlk w h dX1_note_49

abbrev RM_X1_step : Room := { frames := 2, cells := 0, slots := 0, locals := 42 }
theorem iw_X1_step_1 : ∀ w ∈ wsX10, w ∈ wsX1_step := fun w h => List.mem_cons_of_mem _ (List.mem_append_left _ (List.mem_append_left _ (List.mem_append_right _ (h))))
def wp_X1_step (g : tw_G) (σ : tw_S) (a0 : Nat) (a1 : Nat) (a2 : Nat) (Q : tw_S → Prop) : Prop := wp_X7_signAt g σ a2 (tw_I σ a0 5) (fun r2 σ1 => wp_X3_at g σ1 a1 (tw_I σ a0 4) r2 (fun r4 σ3 => ((¬ r4 = (-1 : Int32)) → wp_X8_stateOf g σ3 r4 (fun r7 σ6 => ∀ σ8, σ8 = (tw_sI σ6 a0 4 r7) → wp_X8_shift g σ8 r4 (fun r10 σ9 => ∀ σ11, σ11 = (tw_sI σ9 a0 5 ((tw_I σ8 a0 5) + r10)) → ∀ z12, z12 = (if (tw_I σ11 a0 5) < (tw_I σ8 a0 5) then (tw_I σ11 a0 5) else (tw_I σ8 a0 5)) → wp_X1_note g σ11 a0 z12 (fun σ13 => wp_X1_arrive g σ13 a0 a2 (fun σ14 => Q σ14))))) ∧ ((r4 = (-1 : Int32)) → ∀ σ15, σ15 = (tw_sI σ3 a0 6 (1 : Int32)) → Q σ15)))
set_option maxHeartbeats 4000000 in
set_option maxRecDepth 100000 in
theorem ct_X1_step (l : Launch) (D : va_G) (g : tw_G) (hT : tw_T g) (sz : Nat) (σ : tw_S) (a0 : Nat) (h0 : tw_is g 1 a0) (a1 : Nat) (h1 : tw_is g 3 a1) (a2 : Nat) (h2 : tw_is g 7 a2) (Q : tw_S → Prop) (h : wp_X1_step g σ a0 a1 a2 Q) : tw_Mv l yX1_step wsX1_step RM_X1_step D g sz σ [.ref a0, .ref a1, .ref a2] Q := by
  refine Met.ofW (cc := cX1_step) (maxL := 5) (ret := none) (by decide) rfl ?_
  intro p e s m args below meth c s₁ B hml hv
  obtain ⟨rfl, hsz, hP, hK, hD0⟩ := hv
  subst hsz
  have hr := B.returns
  have hlk := B.notSynchronized
  have X : CallFix p m c cX1_step 5 s _ wsX1_step RX1 := ⟨B.exec, B.bytes, hml, findClass_of_methodNamed B.named, atoms_spec (ws := wsX1_step) B.pre⟩
  have w := tw_w0 hP hD0
  have hl := lv_entry ([.ref a0, .ref a1, .ref a2]) (n := 5) (Nat.le_of_ble_eq_true rfl)
  rw [lg_entry_eq]
  generalize (lg_sl ([.ref a0, .ref a1, .ref a2]) ++ List.replicate (5 - (lg_sl ([.ref a0, .ref a1, .ref a2])).length) Slot.unset).toArray = ls at hl ⊢
  have hl : lv_has ls 5 [(0, .ref a0), (1, .ref a1), (2, .ref a2)] := hl
  unfold wp_X1_step at h
  refine lv_aload_n X.1 X.2.1 dX1_step_0 rfl (lv_at hl 1 rfl) ?_
  refine lv_aload_n X.1 X.2.1 dX1_step_1 rfl (lv_at hl 0 rfl) ?_
  refine tw_get X hK w 1 iw_X1_step_1 h0 (by decide) rfl 4 (by decide) (List.mem_of_getElem? (i := 1) rfl) rfl dX1_step_2 ?_
  refine lv_aload_n X.1 X.2.1 dX1_step_5 rfl (lv_at hl 2 rfl) ?_
  refine lv_aload_n X.1 X.2.1 dX1_step_6 rfl (lv_at hl 0 rfl) ?_
  refine tw_get X hK w 1 iw_X1_step_1 h0 (by decide) rfl 5 (by decide) (List.mem_of_getElem? (i := 2) rfl) rfl dX1_step_7 ?_
  refine tw_ci w (va_runV (As := [.int (tw_I σ a0 5)]) (rest := [.int (tw_I σ a0 4), .ref a1]) X (ct_X7_signAt l D g hT _ σ a2 h2 (tw_I σ a0 5) _ h) (cwV 1 X.2.2.2.2 gX1_step_X7_signAt rfl rfl rfl (by decide +kernel) ⟨Nat.le_of_ble_eq_true rfl, Nat.le_of_ble_eq_true rfl⟩) (tw_preV hK w h2 (by decide) rfl [.int (tw_I σ a0 5)]) rfl rfl hl.1 rfl (lv_room (Nat.le_of_ble_eq_true rfl)) dX1_step_10 ⟨Nat.zero_le _, Nat.zero_le _⟩) (fun r2 σ1 H locs h w => ?_)
  refine tw_ci w (va_runV (As := [.int (tw_I σ a0 4), .int r2]) (rest := []) X (ct_X3_at l D g hT _ σ1 a1 h1 (tw_I σ a0 4) r2 _ h) (cwV 2 X.2.2.2.2 gX1_step_X3_at rfl rfl rfl (by decide +kernel) ⟨Nat.le_of_ble_eq_true rfl, Nat.le_of_ble_eq_true rfl⟩) (tw_preV hK w h1 (by decide) rfl [.int (tw_I σ a0 4), .int r2]) rfl rfl hl.1 rfl (lv_room (Nat.le_of_ble_eq_true rfl)) dX1_step_13 ⟨Nat.zero_le _, Nat.zero_le _⟩) (fun r4 σ3 H locs h w => ?_)
  refine lv_istore_n (lv' := [(3, .int r4), (0, .ref a0), (1, .ref a1), (2, .ref a2)]) X.1 X.2.1 dX1_step_16 rfl hl (by decide) rfl (fun ls hl => ?_)
  have hl := lv_sub (l' := [(3, .int r4), (0, .ref a0), (2, .ref a2)]) hl [0, 1, 3] rfl
  refine lv_iload_n X.1 X.2.1 dX1_step_17 rfl (lv_at hl 0 rfl) ?_
  refine lv_iconst (v := -1) X.1 X.2.1 dX1_step_18 (by decide) ?_
  refine lv_icmp_ne (tgt := 28) X.1 X.2.1 dX1_step_19 (by decide) (fun c5 => ?_) (fun c5 => ?_)
  · have h := h.1 c5
    refine lv_aload_n X.1 X.2.1 dX1_step_28 rfl (lv_at hl 1 rfl) ?_
    refine lv_iload_n X.1 X.2.1 dX1_step_29 rfl (lv_at hl 0 rfl) ?_
    refine tw_ci w (va_runSN (As := [.int r4]) (rest := [.ref a0]) X (ct_X8_stateOf l D g hT _ σ3 r4 _ h) ⟨va_cnB 1 X.2.2.2.2 gX1_step_X8_stateOf_n63 rfl rfl rfl (hK.2 _ (List.mem_of_getElem? (i := 6) rfl)) (X.2.2.2.2 _ (List.mem_of_getElem? (i := 27) rfl)) (by decide +kernel) ⟨Nat.le_of_ble_eq_true rfl, Nat.le_of_ble_eq_true rfl⟩, X.2.2.2.2 _ (List.mem_of_getElem? (i := 29) rfl), trivial⟩ (tw_pre hK w [.int r4]) rfl rfl hl.1 rfl (lv_room (Nat.le_of_ble_eq_true rfl)) dX1_step_30 ⟨Nat.zero_le _, Nat.zero_le _⟩) (fun r7 σ6 H locs h w => ?_)
    refine tw_putI X hK w 1 iw_X1_step_1 tyX1 tyX1_ok nmX1 h0 (by decide) rfl 4 (by decide) (List.mem_of_getElem? (i := 1) rfl) rfl (ty := .int) (by decide +kernel) rfl rfl (Nat.le_of_ble_eq_true rfl) (tw_f_1_4 g _ _ _) dX1_step_33 (fun σ8 H locs eσ8 w => ?_)
    have h := h _ eσ8
    refine lv_aload_n X.1 X.2.1 dX1_step_36 rfl (lv_at hl 1 rfl) ?_
    refine tw_get X hK w 1 iw_X1_step_1 h0 (by decide) rfl 5 (by decide) (List.mem_of_getElem? (i := 2) rfl) rfl dX1_step_37 ?_
    refine lv_istore (lv' := [(4, .int (tw_I σ8 a0 5)), (3, .int r4), (0, .ref a0), (2, .ref a2)]) X.1 X.2.1 dX1_step_40 hl (by decide) rfl (fun ls hl => ?_)
    refine lv_aload_n X.1 X.2.1 dX1_step_42 rfl (lv_at hl 2 rfl) ?_
    refine lv_dup X.1 X.2.1 dX1_step_43 rfl ?_
    refine tw_get X hK w 1 iw_X1_step_1 h0 (by decide) rfl 5 (by decide) (List.mem_of_getElem? (i := 2) rfl) rfl dX1_step_44 ?_
    refine lv_iload_n X.1 X.2.1 dX1_step_47 rfl (lv_at hl 1 rfl) ?_
    refine tw_ci w (va_runSN (As := [.int r4]) (rest := [.int (tw_I σ8 a0 5), .ref a0]) X (ct_X8_shift l D g hT _ σ8 r4 _ h) ⟨va_cnB 1 X.2.2.2.2 gX1_step_X8_shift_n66 rfl rfl rfl (hK.2 _ (List.mem_of_getElem? (i := 7) rfl)) (X.2.2.2.2 _ (List.mem_of_getElem? (i := 27) rfl)) (by decide +kernel) ⟨Nat.le_of_ble_eq_true rfl, Nat.le_of_ble_eq_true rfl⟩, X.2.2.2.2 _ (List.mem_of_getElem? (i := 31) rfl), trivial⟩ (tw_pre hK w [.int r4]) rfl rfl hl.1 rfl (lv_room (Nat.le_of_ble_eq_true rfl)) dX1_step_48 ⟨Nat.zero_le _, Nat.zero_le _⟩) (fun r10 σ9 H locs h w => ?_)
    refine lv_iadd X.1 X.2.1 dX1_step_51 ?_
    refine tw_putI X hK w 1 iw_X1_step_1 tyX1 tyX1_ok nmX1 h0 (by decide) rfl 5 (by decide) (List.mem_of_getElem? (i := 2) rfl) rfl (ty := .int) (by decide +kernel) rfl rfl (Nat.le_of_ble_eq_true rfl) (tw_f_1_5 g _ _ _) dX1_step_52 (fun σ11 H locs eσ11 w => ?_)
    have h := h _ eσ11
    refine lv_aload_n X.1 X.2.1 dX1_step_55 rfl (lv_at hl 2 rfl) ?_
    refine lv_iload X.1 X.2.1 dX1_step_56 (lv_at hl 0 rfl) ?_
    refine lv_aload_n X.1 X.2.1 dX1_step_58 rfl (lv_at hl 2 rfl) ?_
    refine tw_get X hK w 1 iw_X1_step_1 h0 (by decide) rfl 5 (by decide) (List.mem_of_getElem? (i := 2) rfl) rfl dX1_step_59 ?_
    refine va_mmin X.1 X.2.1 (X.2.2.1.trans hl.1.symm) X.2.2.2.1 (X.2.2.2.2 _ (List.mem_of_getElem? (i := 4) rfl)) (X.2.2.2.2 _ (List.mem_of_getElem? (i := 5) rfl)) (X.2.2.2.2 _ (List.mem_of_getElem? (i := 6) rfl)) (X.2.2.2.2 _ (List.mem_of_getElem? (i := 7) rfl)) (Nat.le_of_ble_eq_true rfl) (Nat.le_of_ble_eq_true rfl) (Nat.zero_le _) (Nat.zero_le _) dX1_step_62 ?_
    refine lv_topi (fun z12 ez12 => ?_)
    have h := h _ ez12
    refine tw_cv w (va_runV (As := [.int z12]) (rest := []) X (ct_X1_note l D g hT _ σ11 a0 h0 z12 _ h) (cwV 1 X.2.2.2.2 gX1_step_X1_note rfl rfl rfl (by decide +kernel) ⟨Nat.le_of_ble_eq_true rfl, Nat.le_of_ble_eq_true rfl⟩) (tw_preV hK w h0 (by decide) rfl [.int z12]) rfl rfl hl.1 rfl (lv_room (Nat.le_of_ble_eq_true rfl)) dX1_step_65 ⟨Nat.zero_le _, Nat.zero_le _⟩) (fun σ13 H locs h w => ?_)
    refine lv_aload_n X.1 X.2.1 dX1_step_68 rfl (lv_at hl 2 rfl) ?_
    refine lv_aload_n X.1 X.2.1 dX1_step_69 rfl (lv_at hl 3 rfl) ?_
    refine tw_cv w (va_runV (As := [.ref a2]) (rest := []) X (ct_X1_arrive l D g hT _ σ13 a0 h0 a2 h2 _ h) (cwV 1 X.2.2.2.2 gX1_step_X1_arrive rfl rfl rfl (by decide +kernel) ⟨Nat.le_of_ble_eq_true rfl, Nat.le_of_ble_eq_true rfl⟩) (tw_preV hK w h0 (by decide) rfl [.ref a2]) rfl rfl hl.1 rfl (lv_room (Nat.le_of_ble_eq_true rfl)) dX1_step_70 ⟨Nat.zero_le _, Nat.zero_le _⟩) (fun σ14 H locs h w => ?_)
    exact tw_vret X hr hlk w h dX1_step_73
  · have h := h.2 c5
    refine lv_aload_n X.1 X.2.1 dX1_step_22 rfl (lv_at hl 1 rfl) ?_
    refine lv_iconst (v := 1) X.1 X.2.1 dX1_step_23 (by decide) ?_
    refine tw_putI X hK w 1 iw_X1_step_1 tyX1 tyX1_ok nmX1 h0 (by decide) rfl 6 (by decide) (List.mem_of_getElem? (i := 3) rfl) rfl (ty := .int) (by decide +kernel) rfl rfl (Nat.le_of_ble_eq_true rfl) (tw_f_1_6 g _ _ _) dX1_step_24 (fun σ15 H locs eσ15 w => ?_)
    have h := h _ eσ15
    exact tw_vret X hr hlk w h dX1_step_27

abbrev RM_X1_follow : Room := { frames := 3, cells := 0, slots := 0, locals := 66 }
theorem iw_X1_follow_1 : ∀ w ∈ wsX10, w ∈ wsX1_follow := fun w h => List.mem_cons_of_mem _ (List.mem_append_left _ (List.mem_append_left _ (List.mem_append_right _ (h))))
def wl_X1_follow_35 (g : tw_G) (a0 : Nat) (a1 : Nat) (a2 : Nat) (Q : tw_S → Prop) (k61 : tw_S → Prop) : Nat → Int32 → tw_S → Prop
  | 0, _, _ => False
  | n + 1, x3, σ => (((104 : Int32) ≤ x3) → k61  σ) ∧ (¬ ((104 : Int32) ≤ x3) → ((¬ (tw_I σ a0 6) = (4 : Int32)) → k61  σ) ∧ (((tw_I σ a0 6) = (4 : Int32)) → wp_X1_step g σ a0 a1 a2 (fun σ9 => wl_X1_follow_35 g a0 a1 a2 Q k61 n (x3 + 1) σ9)))
def wp_X1_follow (g : tw_G) (σ : tw_S) (a0 : Nat) (a1 : Nat) (a2 : Nat) (Q : tw_S → Prop) : Prop := wp_J7_fill_53178 g σ (tw_R g a0 0) 26 (0 : Int32) (fun σ1 => ∀ σ2, σ2 = (tw_sI σ1 a0 3 (0 : Int32)) → ∀ σ3, σ3 = (tw_sI σ2 a0 4 (0 : Int32)) → ∀ σ4, σ4 = (tw_sI σ3 a0 5 (0 : Int32)) → ∀ σ5, σ5 = (tw_sI σ4 a0 6 (4 : Int32)) → wp_X1_arrive g σ5 a0 a2 (fun σ6 => ∃ n35, wl_X1_follow_35 g a0 a1 a2 Q (fun σ10 => Q σ10) n35 (0 : Int32) σ6))
set_option maxHeartbeats 4000000 in
set_option maxRecDepth 100000 in
theorem lp_X1_follow_35 {p : Program} {l : Launch} {e : Env} {s : State} {m : MethodId} {args : Array Value} {below : List Frame} {meth : Method} {c : Code} {D : va_G} {g : tw_G} (X : CallFix p m c cX1_follow 4 s args wsX1_follow RX1) (hr : meth.sig.returnType = none) (hlk : meth.locks = false) (hK : tw_k D g s) (hT : tw_T g) {a0 : Nat} {a1 : Nat} {a2 : Nat} (h0 : tw_is g 1 a0) (h1 : tw_is g 3 a1) (h2 : tw_is g 7 a2) {Q : tw_S → Prop} {k61 : tw_S → Prop}
    (hk61 : ∀  (σ : tw_S) (H : Heap) (locs : List Loc) (ls : Array Slot), k61  σ → tw_w D g (tw_F g s.heap.size) s σ H locs → lv_has ls 4 [] → W p l e RM_X1_follow s m args below meth c H locs 0 0 (tw_Qv Q D g below args s) (F0 m 61 ls []))
    : ∀ (n : Nat) (x3 : Int32) (σ : tw_S) (H : Heap) (locs : List Loc) (ls : Array Slot), wl_X1_follow_35 g a0 a1 a2 Q k61 n x3 σ → tw_w D g (tw_F g s.heap.size) s σ H locs → lv_has ls 4 [(0, .ref a0), (1, .ref a1), (2, .ref a2), (3, .int x3)] → W p l e RM_X1_follow s m args below meth c H locs 0 0 (tw_Qv Q D g below args s) (F0 m 35 ls []) := by
  intro n
  induction n with
  | zero =>
    intro x3 σ H locs ls h w hl
    exact False.elim h
  | succ n ih =>
    intro x3 σ H locs ls h w hl
    rw [wl_X1_follow_35] at h
    refine lv_iload_n X.1 X.2.1 dX1_follow_35 rfl (lv_at hl 3 rfl) ?_
    refine lv_bipush (v := 104) X.1 X.2.1 dX1_follow_36 (by decide) ?_
    refine lv_icmp_ge (tgt := 61) X.1 X.2.1 dX1_follow_38 (by decide) (fun c7 => ?_) (fun c7 => ?_)
    · have h := h.1 c7
      exact hk61  σ _ _ ls h w (lv_sub hl [] rfl)
    · have h := h.2 c7
      refine lv_aload_n X.1 X.2.1 dX1_follow_41 rfl (lv_at hl 0 rfl) ?_
      refine tw_get X hK w 1 iw_X1_follow_1 h0 (by decide) rfl 6 (by decide) (List.mem_of_getElem? (i := 5) rfl) rfl dX1_follow_42 ?_
      refine lv_iconst (v := 4) X.1 X.2.1 dX1_follow_45 (by decide) ?_
      refine lv_icmp_ne (tgt := 61) X.1 X.2.1 dX1_follow_46 (by decide) (fun c8 => ?_) (fun c8 => ?_)
      · have h := h.1 c8
        exact hk61  σ _ _ ls h w (lv_sub hl [] rfl)
      · have h := h.2 c8
        refine lv_aload_n X.1 X.2.1 dX1_follow_49 rfl (lv_at hl 0 rfl) ?_
        refine lv_aload_n X.1 X.2.1 dX1_follow_50 rfl (lv_at hl 1 rfl) ?_
        refine lv_aload_n X.1 X.2.1 dX1_follow_51 rfl (lv_at hl 2 rfl) ?_
        refine tw_cv w (va_runV (As := [.ref a1, .ref a2]) (rest := []) X (ct_X1_step l D g hT _ σ a0 h0 a1 h1 a2 h2 _ h) (cwV 2 X.2.2.2.2 gX1_follow_X1_step rfl rfl rfl (by decide +kernel) ⟨Nat.le_of_ble_eq_true rfl, Nat.le_of_ble_eq_true rfl⟩) (tw_preV hK w h0 (by decide) rfl [.ref a1, .ref a2]) rfl rfl hl.1 rfl (lv_room (Nat.le_of_ble_eq_true rfl)) dX1_follow_52 ⟨Nat.zero_le _, Nat.zero_le _⟩) (fun σ9 H locs h w => ?_)
        refine lv_iinc (v := (x3 + 1)) (lv' := [(3, .int (x3 + 1)), (0, .ref a0), (1, .ref a1), (2, .ref a2)]) X.1 X.2.1 dX1_follow_55 hl (k := 3) rfl rfl (by decide) rfl (fun ls hl => ?_)
        refine lv_goto (tgt := 35) X.1 X.2.1 dX1_follow_58 (by decide) ?_
        exact ih (x3 + 1) σ9 _ _ ls h w (lv_sub hl [1, 2, 3, 0] rfl)
set_option maxHeartbeats 4000000 in
set_option maxRecDepth 100000 in
theorem ct_X1_follow (l : Launch) (D : va_G) (g : tw_G) (hT : tw_T g) (sz : Nat) (σ : tw_S) (a0 : Nat) (h0 : tw_is g 1 a0) (a1 : Nat) (h1 : tw_is g 3 a1) (a2 : Nat) (h2 : tw_is g 7 a2) (Q : tw_S → Prop) (h : wp_X1_follow g σ a0 a1 a2 Q) : tw_Mv l yX1_follow wsX1_follow RM_X1_follow D g sz σ [.ref a0, .ref a1, .ref a2] Q := by
  refine Met.ofW (cc := cX1_follow) (maxL := 4) (ret := none) (by decide) rfl ?_
  intro p e s m args below meth c s₁ B hml hv
  obtain ⟨rfl, hsz, hP, hK, hD0⟩ := hv
  subst hsz
  have hr := B.returns
  have hlk := B.notSynchronized
  have X : CallFix p m c cX1_follow 4 s _ wsX1_follow RX1 := ⟨B.exec, B.bytes, hml, findClass_of_methodNamed B.named, atoms_spec (ws := wsX1_follow) B.pre⟩
  have w := tw_w0 hP hD0
  have hl := lv_entry ([.ref a0, .ref a1, .ref a2]) (n := 4) (Nat.le_of_ble_eq_true rfl)
  rw [lg_entry_eq]
  generalize (lg_sl ([.ref a0, .ref a1, .ref a2]) ++ List.replicate (4 - (lg_sl ([.ref a0, .ref a1, .ref a2])).length) Slot.unset).toArray = ls at hl ⊢
  have hl : lv_has ls 4 [(0, .ref a0), (1, .ref a1), (2, .ref a2)] := hl
  unfold wp_X1_follow at h
  refine lv_aload_n X.1 X.2.1 dX1_follow_0 rfl (lv_at hl 0 rfl) ?_
  refine tw_get X hK w 1 iw_X1_follow_1 h0 (by decide) rfl 0 (by decide) (List.mem_of_getElem? (i := 1) rfl) rfl dX1_follow_1 ?_
  refine lv_iconst (v := 0) X.1 X.2.1 dX1_follow_4 (by decide) ?_
  refine tw_cv w (va_runS (As := [.ref (tw_R g a0 0), .int (0 : Int32)]) (rest := []) X (ct_J7_fill_53178 l D g hT _ σ (tw_R g a0 0) (tw_t_1_0 hT h0) 26 (tw_n_1_0 hT h0) (0 : Int32) _ h) (va_cwS 2 X.2.2.2.2 gX1_follow_J7_fill_53178 rfl rfl rfl (by decide +kernel) ⟨Nat.le_of_ble_eq_true rfl, Nat.le_of_ble_eq_true rfl⟩) (tw_pre hK w [.ref (tw_R g a0 0), .int (0 : Int32)]) rfl rfl hl.1 rfl (lv_room (Nat.le_of_ble_eq_true rfl)) dX1_follow_5 ⟨Nat.zero_le _, Nat.zero_le _⟩) (fun σ1 H locs h w => ?_)
  refine lv_aload_n X.1 X.2.1 dX1_follow_8 rfl (lv_at hl 0 rfl) ?_
  refine lv_iconst (v := 0) X.1 X.2.1 dX1_follow_9 (by decide) ?_
  refine tw_putI X hK w 1 iw_X1_follow_1 tyX1 tyX1_ok nmX1 h0 (by decide) rfl 3 (by decide) (List.mem_of_getElem? (i := 2) rfl) rfl (ty := .int) (by decide +kernel) rfl rfl (Nat.le_of_ble_eq_true rfl) (tw_f_1_3 g _ _ _) dX1_follow_10 (fun σ2 H locs eσ2 w => ?_)
  have h := h _ eσ2
  refine lv_aload_n X.1 X.2.1 dX1_follow_13 rfl (lv_at hl 0 rfl) ?_
  refine lv_iconst (v := 0) X.1 X.2.1 dX1_follow_14 (by decide) ?_
  refine tw_putI X hK w 1 iw_X1_follow_1 tyX1 tyX1_ok nmX1 h0 (by decide) rfl 4 (by decide) (List.mem_of_getElem? (i := 3) rfl) rfl (ty := .int) (by decide +kernel) rfl rfl (Nat.le_of_ble_eq_true rfl) (tw_f_1_4 g _ _ _) dX1_follow_15 (fun σ3 H locs eσ3 w => ?_)
  have h := h _ eσ3
  refine lv_aload_n X.1 X.2.1 dX1_follow_18 rfl (lv_at hl 0 rfl) ?_
  refine lv_iconst (v := 0) X.1 X.2.1 dX1_follow_19 (by decide) ?_
  refine tw_putI X hK w 1 iw_X1_follow_1 tyX1 tyX1_ok nmX1 h0 (by decide) rfl 5 (by decide) (List.mem_of_getElem? (i := 4) rfl) rfl (ty := .int) (by decide +kernel) rfl rfl (Nat.le_of_ble_eq_true rfl) (tw_f_1_5 g _ _ _) dX1_follow_20 (fun σ4 H locs eσ4 w => ?_)
  have h := h _ eσ4
  refine lv_aload_n X.1 X.2.1 dX1_follow_23 rfl (lv_at hl 0 rfl) ?_
  refine lv_iconst (v := 4) X.1 X.2.1 dX1_follow_24 (by decide) ?_
  refine tw_putI X hK w 1 iw_X1_follow_1 tyX1 tyX1_ok nmX1 h0 (by decide) rfl 6 (by decide) (List.mem_of_getElem? (i := 5) rfl) rfl (ty := .int) (by decide +kernel) rfl rfl (Nat.le_of_ble_eq_true rfl) (tw_f_1_6 g _ _ _) dX1_follow_25 (fun σ5 H locs eσ5 w => ?_)
  have h := h _ eσ5
  refine lv_aload_n X.1 X.2.1 dX1_follow_28 rfl (lv_at hl 0 rfl) ?_
  refine lv_aload_n X.1 X.2.1 dX1_follow_29 rfl (lv_at hl 2 rfl) ?_
  refine tw_cv w (va_runV (As := [.ref a2]) (rest := []) X (ct_X1_arrive l D g hT _ σ5 a0 h0 a2 h2 _ h) (cwV 1 X.2.2.2.2 gX1_follow_X1_arrive rfl rfl rfl (by decide +kernel) ⟨Nat.le_of_ble_eq_true rfl, Nat.le_of_ble_eq_true rfl⟩) (tw_preV hK w h0 (by decide) rfl [.ref a2]) rfl rfl hl.1 rfl (lv_room (Nat.le_of_ble_eq_true rfl)) dX1_follow_30 ⟨Nat.zero_le _, Nat.zero_le _⟩) (fun σ6 H locs h w => ?_)
  refine lv_iconst (v := 0) X.1 X.2.1 dX1_follow_33 (by decide) ?_
  refine lv_istore_n (lv' := [(3, .int (0 : Int32)), (0, .ref a0), (1, .ref a1), (2, .ref a2)]) X.1 X.2.1 dX1_follow_34 rfl hl (by decide) rfl (fun ls hl => ?_)
  obtain ⟨n35, h⟩ := h
  refine lp_X1_follow_35 X hr hlk hK hT h0 h1 h2 (fun σ10 H locs ls h w hl => ?_) n35 (0 : Int32) σ6 _ _ ls h w (lv_sub hl [1, 2, 3, 0] rfl)
  · skip
    exact tw_vret X hr hlk w h dX1_follow_61

abbrev RM_X1_isTaken : Room := { frames := 0, cells := 0, slots := 0, locals := 0 }
theorem iw_X1_isTaken_1 : ∀ w ∈ wsX10, w ∈ wsX1_isTaken := fun w h => List.mem_cons_of_mem _ (List.mem_append_right _ (h))
def wp_X1_isTaken (g : tw_G) (σ : tw_S) (a0 : Nat) (Q : Int32 → tw_S → Prop) : Prop := ((¬ (tw_I σ a0 6) = 0) → Q (0 : Int32) σ) ∧ (((tw_I σ a0 6) = 0) → Q (1 : Int32) σ)
set_option maxHeartbeats 4000000 in
set_option maxRecDepth 100000 in
theorem ct_X1_isTaken (l : Launch) (D : va_G) (g : tw_G) (hT : tw_T g) (sz : Nat) (σ : tw_S) (a0 : Nat) (h0 : tw_is g 1 a0) (Q : Int32 → tw_S → Prop) (h : wp_X1_isTaken g σ a0 Q) : tw_Mi l yX1_isTaken wsX1_isTaken RM_X1_isTaken D g sz σ [.ref a0] Q := by
  refine Met.ofW (cc := cX1_isTaken) (maxL := 1) (ret := (some .boolean)) (by decide) rfl ?_
  intro p e s m args below meth c s₁ B hml hv
  obtain ⟨rfl, hsz, hP, hK, hD0⟩ := hv
  subst hsz
  have hr := B.returns
  have hlk := B.notSynchronized
  have X : CallFix p m c cX1_isTaken 1 s _ wsX1_isTaken RX1 := ⟨B.exec, B.bytes, hml, findClass_of_methodNamed B.named, atoms_spec (ws := wsX1_isTaken) B.pre⟩
  have w := tw_w0 hP hD0
  have hl := lv_entry ([.ref a0]) (n := 1) (Nat.le_of_ble_eq_true rfl)
  rw [lg_entry_eq]
  generalize (lg_sl ([.ref a0]) ++ List.replicate (1 - (lg_sl ([.ref a0])).length) Slot.unset).toArray = ls at hl ⊢
  have hl : lv_has ls 1 [(0, .ref a0)] := hl
  unfold wp_X1_isTaken at h
  refine lv_aload_n X.1 X.2.1 dX1_isTaken_0 rfl (lv_at hl 0 rfl) ?_
  refine tw_get X hK w 1 iw_X1_isTaken_1 h0 (by decide) rfl 6 (by decide) (List.mem_of_getElem? (i := 1) rfl) rfl dX1_isTaken_1 ?_
  refine lv_if_ne (tgt := 11) X.1 X.2.1 dX1_isTaken_4 (by decide) (fun c1 => ?_) (fun c1 => ?_)
  · have h := h.1 c1
    refine lv_iconst (v := 0) X.1 X.2.1 dX1_isTaken_11 (by decide) ?_
    exact tw_zret X hr hlk w (by decide) h dX1_isTaken_12
  · have h := h.2 c1
    refine lv_iconst (v := 1) X.1 X.2.1 dX1_isTaken_7 (by decide) ?_
    refine lv_goto (tgt := 12) X.1 X.2.1 dX1_isTaken_8 (by decide) ?_
    exact tw_zret X hr hlk w (by decide) h dX1_isTaken_12

abbrev RM_X1_ending : Room := { frames := 0, cells := 0, slots := 0, locals := 0 }
theorem iw_X1_ending_1 : ∀ w ∈ wsX10, w ∈ wsX1_ending := fun w h => List.mem_cons_of_mem _ (List.mem_append_right _ (h))
def wp_X1_ending (g : tw_G) (σ : tw_S) (a0 : Nat) (Q : Int32 → tw_S → Prop) : Prop := Q (tw_I σ a0 6) σ
set_option maxHeartbeats 4000000 in
set_option maxRecDepth 100000 in
theorem ct_X1_ending (l : Launch) (D : va_G) (g : tw_G) (hT : tw_T g) (sz : Nat) (σ : tw_S) (a0 : Nat) (h0 : tw_is g 1 a0) (Q : Int32 → tw_S → Prop) (h : wp_X1_ending g σ a0 Q) : tw_Mi l yX1_ending wsX1_ending RM_X1_ending D g sz σ [.ref a0] Q := by
  refine Met.ofW (cc := cX1_ending) (maxL := 1) (ret := (some .int)) (by decide) rfl ?_
  intro p e s m args below meth c s₁ B hml hv
  obtain ⟨rfl, hsz, hP, hK, hD0⟩ := hv
  subst hsz
  have hr := B.returns
  have hlk := B.notSynchronized
  have X : CallFix p m c cX1_ending 1 s _ wsX1_ending RX1 := ⟨B.exec, B.bytes, hml, findClass_of_methodNamed B.named, atoms_spec (ws := wsX1_ending) B.pre⟩
  have w := tw_w0 hP hD0
  have hl := lv_entry ([.ref a0]) (n := 1) (Nat.le_of_ble_eq_true rfl)
  rw [lg_entry_eq]
  generalize (lg_sl ([.ref a0]) ++ List.replicate (1 - (lg_sl ([.ref a0])).length) Slot.unset).toArray = ls at hl ⊢
  have hl : lv_has ls 1 [(0, .ref a0)] := hl
  unfold wp_X1_ending at h
  refine lv_aload_n X.1 X.2.1 dX1_ending_0 rfl (lv_at hl 0 rfl) ?_
  refine tw_get X hK w 1 iw_X1_ending_1 h0 (by decide) rfl 6 (by decide) (List.mem_of_getElem? (i := 1) rfl) rfl dX1_ending_1 ?_
  exact tw_iret X hr hlk w h dX1_ending_4

abbrev RM_X1_steps : Room := { frames := 0, cells := 0, slots := 0, locals := 0 }
theorem iw_X1_steps_1 : ∀ w ∈ wsX10, w ∈ wsX1_steps := fun w h => List.mem_cons_of_mem _ (List.mem_append_right _ (h))
def wp_X1_steps (g : tw_G) (σ : tw_S) (a0 : Nat) (Q : Int32 → tw_S → Prop) : Prop := Q (tw_I σ a0 3) σ
set_option maxHeartbeats 4000000 in
set_option maxRecDepth 100000 in
theorem ct_X1_steps (l : Launch) (D : va_G) (g : tw_G) (hT : tw_T g) (sz : Nat) (σ : tw_S) (a0 : Nat) (h0 : tw_is g 1 a0) (Q : Int32 → tw_S → Prop) (h : wp_X1_steps g σ a0 Q) : tw_Mi l yX1_steps wsX1_steps RM_X1_steps D g sz σ [.ref a0] Q := by
  refine Met.ofW (cc := cX1_steps) (maxL := 1) (ret := (some .int)) (by decide) rfl ?_
  intro p e s m args below meth c s₁ B hml hv
  obtain ⟨rfl, hsz, hP, hK, hD0⟩ := hv
  subst hsz
  have hr := B.returns
  have hlk := B.notSynchronized
  have X : CallFix p m c cX1_steps 1 s _ wsX1_steps RX1 := ⟨B.exec, B.bytes, hml, findClass_of_methodNamed B.named, atoms_spec (ws := wsX1_steps) B.pre⟩
  have w := tw_w0 hP hD0
  have hl := lv_entry ([.ref a0]) (n := 1) (Nat.le_of_ble_eq_true rfl)
  rw [lg_entry_eq]
  generalize (lg_sl ([.ref a0]) ++ List.replicate (1 - (lg_sl ([.ref a0])).length) Slot.unset).toArray = ls at hl ⊢
  have hl : lv_has ls 1 [(0, .ref a0)] := hl
  unfold wp_X1_steps at h
  refine lv_aload_n X.1 X.2.1 dX1_steps_0 rfl (lv_at hl 0 rfl) ?_
  refine tw_get X hK w 1 iw_X1_steps_1 h0 (by decide) rfl 3 (by decide) (List.mem_of_getElem? (i := 1) rfl) rfl dX1_steps_1 ?_
  exact tw_iret X hr hlk w h dX1_steps_4

abbrev RM_X1_lastState : Room := { frames := 0, cells := 0, slots := 0, locals := 0 }
theorem iw_X1_lastState_1 : ∀ w ∈ wsX10, w ∈ wsX1_lastState := fun w h => List.mem_cons_of_mem _ (List.mem_append_right _ (h))
def wp_X1_lastState (g : tw_G) (σ : tw_S) (a0 : Nat) (Q : Int32 → tw_S → Prop) : Prop := Q (tw_I σ a0 4) σ
set_option maxHeartbeats 4000000 in
set_option maxRecDepth 100000 in
theorem ct_X1_lastState (l : Launch) (D : va_G) (g : tw_G) (hT : tw_T g) (sz : Nat) (σ : tw_S) (a0 : Nat) (h0 : tw_is g 1 a0) (Q : Int32 → tw_S → Prop) (h : wp_X1_lastState g σ a0 Q) : tw_Mi l yX1_lastState wsX1_lastState RM_X1_lastState D g sz σ [.ref a0] Q := by
  refine Met.ofW (cc := cX1_lastState) (maxL := 1) (ret := (some .int)) (by decide) rfl ?_
  intro p e s m args below meth c s₁ B hml hv
  obtain ⟨rfl, hsz, hP, hK, hD0⟩ := hv
  subst hsz
  have hr := B.returns
  have hlk := B.notSynchronized
  have X : CallFix p m c cX1_lastState 1 s _ wsX1_lastState RX1 := ⟨B.exec, B.bytes, hml, findClass_of_methodNamed B.named, atoms_spec (ws := wsX1_lastState) B.pre⟩
  have w := tw_w0 hP hD0
  have hl := lv_entry ([.ref a0]) (n := 1) (Nat.le_of_ble_eq_true rfl)
  rw [lg_entry_eq]
  generalize (lg_sl ([.ref a0]) ++ List.replicate (1 - (lg_sl ([.ref a0])).length) Slot.unset).toArray = ls at hl ⊢
  have hl : lv_has ls 1 [(0, .ref a0)] := hl
  unfold wp_X1_lastState at h
  refine lv_aload_n X.1 X.2.1 dX1_lastState_0 rfl (lv_at hl 0 rfl) ?_
  refine tw_get X hK w 1 iw_X1_lastState_1 h0 (by decide) rfl 4 (by decide) (List.mem_of_getElem? (i := 1) rfl) rfl dX1_lastState_1 ?_
  exact tw_iret X hr hlk w h dX1_lastState_4

abbrev RM_X1_howOften : Room := { frames := 0, cells := 0, slots := 0, locals := 0 }
theorem iw_X1_howOften_1 : ∀ w ∈ wsX10, w ∈ wsX1_howOften := fun w h => List.mem_cons_of_mem _ (List.mem_append_right _ (h))
def wl_X1_howOften_4 (g : tw_G) (a0 : Nat) (x1 : Int32) (Q : Int32 → tw_S → Prop) (k37 : Int32 → tw_S → Prop) : Nat → Int32 → Int32 → tw_S → Prop
  | 0, _, _, _ => False
  | n + 1, x2, x3, σ => (((tw_I σ a0 3) ≤ x3) → k37 x2 σ) ∧ (¬ ((tw_I σ a0 3) ≤ x3) → (((104 : Int32) ≤ x3) → k37 x2 σ) ∧ (¬ ((104 : Int32) ≤ x3) → vp_in x3 104 ∧ ((¬ (tw_A σ (tw_R g a0 1) x3.toNatClampNeg) = x1) → wl_X1_howOften_4 g a0 x1 Q k37 n x2 (x3 + 1) σ) ∧ (((tw_A σ (tw_R g a0 1) x3.toNatClampNeg) = x1) → wl_X1_howOften_4 g a0 x1 Q k37 n (x2 + 1) (x3 + 1) σ)))
def wp_X1_howOften (g : tw_G) (σ : tw_S) (a0 : Nat) (x1 : Int32) (Q : Int32 → tw_S → Prop) : Prop := ∃ n4, wl_X1_howOften_4 g a0 x1 Q (fun v5 σ6 => Q v5 σ6) n4 (0 : Int32) (0 : Int32) σ
set_option maxHeartbeats 4000000 in
set_option maxRecDepth 100000 in
theorem lp_X1_howOften_4 {p : Program} {l : Launch} {e : Env} {s : State} {m : MethodId} {args : Array Value} {below : List Frame} {meth : Method} {c : Code} {D : va_G} {g : tw_G} (X : CallFix p m c cX1_howOften 4 s args wsX1_howOften RX1) (hr : meth.sig.returnType = (some .int)) (hlk : meth.locks = false) (hK : tw_k D g s) (hT : tw_T g) {a0 : Nat} {x1 : Int32} (h0 : tw_is g 1 a0) {Q : Int32 → tw_S → Prop} {k37 : Int32 → tw_S → Prop}
    (hk37 : ∀ (x2 : Int32) (σ : tw_S) (H : Heap) (locs : List Loc) (ls : Array Slot), k37 x2 σ → tw_w D g (tw_F g s.heap.size) s σ H locs → lv_has ls 4 [(2, .int x2)] → W p l e RM_X1_howOften s m args below meth c H locs 0 0 (tw_Qi Q D g below args s) (F0 m 37 ls []))
    : ∀ (n : Nat) (x2 : Int32) (x3 : Int32) (σ : tw_S) (H : Heap) (locs : List Loc) (ls : Array Slot), wl_X1_howOften_4 g a0 x1 Q k37 n x2 x3 σ → tw_w D g (tw_F g s.heap.size) s σ H locs → lv_has ls 4 [(0, .ref a0), (1, .int x1), (2, .int x2), (3, .int x3)] → W p l e RM_X1_howOften s m args below meth c H locs 0 0 (tw_Qi Q D g below args s) (F0 m 4 ls []) := by
  intro n
  induction n with
  | zero =>
    intro x2 x3 σ H locs ls h w hl
    exact False.elim h
  | succ n ih =>
    intro x2 x3 σ H locs ls h w hl
    rw [wl_X1_howOften_4] at h
    refine lv_iload_n X.1 X.2.1 dX1_howOften_4 rfl (lv_at hl 3 rfl) ?_
    refine lv_aload_n X.1 X.2.1 dX1_howOften_5 rfl (lv_at hl 0 rfl) ?_
    refine tw_get X hK w 1 iw_X1_howOften_1 h0 (by decide) rfl 3 (by decide) (List.mem_of_getElem? (i := 1) rfl) rfl dX1_howOften_6 ?_
    refine lv_icmp_ge (tgt := 37) X.1 X.2.1 dX1_howOften_9 (by decide) (fun c1 => ?_) (fun c1 => ?_)
    · have h := h.1 c1
      exact hk37 x2 σ _ _ ls h w (lv_sub hl [2] rfl)
    · have h := h.2 c1
      refine lv_iload_n X.1 X.2.1 dX1_howOften_12 rfl (lv_at hl 3 rfl) ?_
      refine lv_bipush (v := 104) X.1 X.2.1 dX1_howOften_13 (by decide) ?_
      refine lv_icmp_ge (tgt := 37) X.1 X.2.1 dX1_howOften_15 (by decide) (fun c2 => ?_) (fun c2 => ?_)
      · have h := h.1 c2
        exact hk37 x2 σ _ _ ls h w (lv_sub hl [2] rfl)
      · have h := h.2 c2
        refine lv_aload_n X.1 X.2.1 dX1_howOften_18 rfl (lv_at hl 0 rfl) ?_
        refine tw_get X hK w 1 iw_X1_howOften_1 h0 (by decide) rfl 1 (by decide) (List.mem_of_getElem? (i := 2) rfl) rfl dX1_howOften_19 ?_
        refine lv_iload_n X.1 X.2.1 dX1_howOften_22 rfl (lv_at hl 3 rfl) ?_
        obtain ⟨hi3, h⟩ := h
        refine tw_iald X hK w (tw_t_1_1 hT h0) (tw_n_1_1 hT h0) hi3 dX1_howOften_23 ?_
        refine lv_iload_n X.1 X.2.1 dX1_howOften_24 rfl (lv_at hl 1 rfl) ?_
        refine lv_icmp_ne (tgt := 31) X.1 X.2.1 dX1_howOften_25 (by decide) (fun c4 => ?_) (fun c4 => ?_)
        · have h := h.1 c4
          refine lv_iinc (v := (x3 + 1)) (lv' := [(3, .int (x3 + 1)), (0, .ref a0), (1, .int x1), (2, .int x2)]) X.1 X.2.1 dX1_howOften_31 hl (k := 3) rfl rfl (by decide) rfl (fun ls hl => ?_)
          refine lv_goto (tgt := 4) X.1 X.2.1 dX1_howOften_34 (by decide) ?_
          exact ih x2 (x3 + 1) σ _ _ ls h w (lv_sub hl [1, 2, 3, 0] rfl)
        · have h := h.2 c4
          refine lv_iinc (v := (x2 + 1)) (lv' := [(2, .int (x2 + 1)), (0, .ref a0), (1, .int x1), (3, .int x3)]) X.1 X.2.1 dX1_howOften_28 hl (k := 2) rfl rfl (by decide) rfl (fun ls hl => ?_)
          refine lv_iinc (v := (x3 + 1)) (lv' := [(3, .int (x3 + 1)), (2, .int (x2 + 1)), (0, .ref a0), (1, .int x1)]) X.1 X.2.1 dX1_howOften_31 hl (k := 3) rfl rfl (by decide) rfl (fun ls hl => ?_)
          refine lv_goto (tgt := 4) X.1 X.2.1 dX1_howOften_34 (by decide) ?_
          exact ih (x2 + 1) (x3 + 1) σ _ _ ls h w (lv_sub hl [2, 3, 1, 0] rfl)
set_option maxHeartbeats 4000000 in
set_option maxRecDepth 100000 in
theorem ct_X1_howOften (l : Launch) (D : va_G) (g : tw_G) (hT : tw_T g) (sz : Nat) (σ : tw_S) (a0 : Nat) (h0 : tw_is g 1 a0) (x1 : Int32) (Q : Int32 → tw_S → Prop) (h : wp_X1_howOften g σ a0 x1 Q) : tw_Mi l yX1_howOften wsX1_howOften RM_X1_howOften D g sz σ [.ref a0, .int x1] Q := by
  refine Met.ofW (cc := cX1_howOften) (maxL := 4) (ret := (some .int)) (by decide) rfl ?_
  intro p e s m args below meth c s₁ B hml hv
  obtain ⟨rfl, hsz, hP, hK, hD0⟩ := hv
  subst hsz
  have hr := B.returns
  have hlk := B.notSynchronized
  have X : CallFix p m c cX1_howOften 4 s _ wsX1_howOften RX1 := ⟨B.exec, B.bytes, hml, findClass_of_methodNamed B.named, atoms_spec (ws := wsX1_howOften) B.pre⟩
  have w := tw_w0 hP hD0
  have hl := lv_entry ([.ref a0, .int x1]) (n := 4) (Nat.le_of_ble_eq_true rfl)
  rw [lg_entry_eq]
  generalize (lg_sl ([.ref a0, .int x1]) ++ List.replicate (4 - (lg_sl ([.ref a0, .int x1])).length) Slot.unset).toArray = ls at hl ⊢
  have hl : lv_has ls 4 [(0, .ref a0), (1, .int x1)] := hl
  unfold wp_X1_howOften at h
  refine lv_iconst (v := 0) X.1 X.2.1 dX1_howOften_0 (by decide) ?_
  refine lv_istore_n (lv' := [(2, .int (0 : Int32)), (0, .ref a0), (1, .int x1)]) X.1 X.2.1 dX1_howOften_1 rfl hl (by decide) rfl (fun ls hl => ?_)
  refine lv_iconst (v := 0) X.1 X.2.1 dX1_howOften_2 (by decide) ?_
  refine lv_istore_n (lv' := [(3, .int (0 : Int32)), (2, .int (0 : Int32)), (0, .ref a0), (1, .int x1)]) X.1 X.2.1 dX1_howOften_3 rfl hl (by decide) rfl (fun ls hl => ?_)
  obtain ⟨n4, h⟩ := h
  refine lp_X1_howOften_4 X hr hlk hK hT h0 (fun v5 σ6 H locs ls h w hl => ?_) n4 (0 : Int32) (0 : Int32) σ _ _ ls h w (lv_sub hl [2, 3, 1, 0] rfl)
  · skip
    refine lv_iload_n X.1 X.2.1 dX1_howOften_37 rfl (lv_at hl 0 rfl) ?_
    exact tw_iret X hr hlk w h dX1_howOften_38

abbrev RM_X1_stateAt : Room := { frames := 0, cells := 0, slots := 0, locals := 0 }
theorem iw_X1_stateAt_1 : ∀ w ∈ wsX10, w ∈ wsX1_stateAt := fun w h => List.mem_cons_of_mem _ (List.mem_append_right _ (h))
def wl_X1_stateAt_5 (g : tw_G) (a0 : Nat) (x1 : Int32) (x2 : Int32) (Q : Int32 → tw_S → Prop) (k37 : Int32 → tw_S → Prop) (k54 : tw_S → Prop) : Nat → Int32 → Int32 → tw_S → Prop
  | 0, _, _, _ => False
  | n + 1, x3, x4, σ => (((tw_I σ a0 3) ≤ x4) → k54  σ) ∧ (¬ ((tw_I σ a0 3) ≤ x4) → (((104 : Int32) ≤ x4) → k54  σ) ∧ (¬ ((104 : Int32) ≤ x4) → vp_in x4 104 ∧ ((¬ (tw_A σ (tw_R g a0 1) x4.toNatClampNeg) = x1) → wl_X1_stateAt_5 g a0 x1 x2 Q k37 k54 n x3 (x4 + 1) σ) ∧ (((tw_A σ (tw_R g a0 1) x4.toNatClampNeg) = x1) → ((¬ x3 = x2) → wl_X1_stateAt_5 g a0 x1 x2 Q k37 k54 n (x3 + 1) (x4 + 1) σ) ∧ ((x3 = x2) → k37 x4 σ))))
def wp_X1_stateAt (g : tw_G) (σ : tw_S) (a0 : Nat) (x1 : Int32) (x2 : Int32) (Q : Int32 → tw_S → Prop) : Prop := ∃ n5, wl_X1_stateAt_5 g a0 x1 x2 Q (fun v6 σ7 => vp_in v6 104 ∧ Q (tw_A σ7 (tw_R g a0 2) v6.toNatClampNeg) σ7) (fun σ9 => Q (-1 : Int32) σ9) n5 (0 : Int32) (0 : Int32) σ
set_option maxHeartbeats 4000000 in
set_option maxRecDepth 100000 in
theorem lp_X1_stateAt_5 {p : Program} {l : Launch} {e : Env} {s : State} {m : MethodId} {args : Array Value} {below : List Frame} {meth : Method} {c : Code} {D : va_G} {g : tw_G} (X : CallFix p m c cX1_stateAt 5 s args wsX1_stateAt RX1) (hr : meth.sig.returnType = (some .int)) (hlk : meth.locks = false) (hK : tw_k D g s) (hT : tw_T g) {a0 : Nat} {x1 : Int32} {x2 : Int32} (h0 : tw_is g 1 a0) {Q : Int32 → tw_S → Prop} {k37 : Int32 → tw_S → Prop} {k54 : tw_S → Prop}
    (hk37 : ∀ (x4 : Int32) (σ : tw_S) (H : Heap) (locs : List Loc) (ls : Array Slot), k37 x4 σ → tw_w D g (tw_F g s.heap.size) s σ H locs → lv_has ls 5 [(0, .ref a0), (4, .int x4)] → W p l e RM_X1_stateAt s m args below meth c H locs 0 0 (tw_Qi Q D g below args s) (F0 m 37 ls []))
    (hk54 : ∀  (σ : tw_S) (H : Heap) (locs : List Loc) (ls : Array Slot), k54  σ → tw_w D g (tw_F g s.heap.size) s σ H locs → lv_has ls 5 [] → W p l e RM_X1_stateAt s m args below meth c H locs 0 0 (tw_Qi Q D g below args s) (F0 m 54 ls []))
    : ∀ (n : Nat) (x3 : Int32) (x4 : Int32) (σ : tw_S) (H : Heap) (locs : List Loc) (ls : Array Slot), wl_X1_stateAt_5 g a0 x1 x2 Q k37 k54 n x3 x4 σ → tw_w D g (tw_F g s.heap.size) s σ H locs → lv_has ls 5 [(0, .ref a0), (1, .int x1), (2, .int x2), (3, .int x3), (4, .int x4)] → W p l e RM_X1_stateAt s m args below meth c H locs 0 0 (tw_Qi Q D g below args s) (F0 m 5 ls []) := by
  intro n
  induction n with
  | zero =>
    intro x3 x4 σ H locs ls h w hl
    exact False.elim h
  | succ n ih =>
    intro x3 x4 σ H locs ls h w hl
    rw [wl_X1_stateAt_5] at h
    refine lv_iload X.1 X.2.1 dX1_stateAt_5 (lv_at hl 4 rfl) ?_
    refine lv_aload_n X.1 X.2.1 dX1_stateAt_7 rfl (lv_at hl 0 rfl) ?_
    refine tw_get X hK w 1 iw_X1_stateAt_1 h0 (by decide) rfl 3 (by decide) (List.mem_of_getElem? (i := 1) rfl) rfl dX1_stateAt_8 ?_
    refine lv_icmp_ge (tgt := 54) X.1 X.2.1 dX1_stateAt_11 (by decide) (fun c1 => ?_) (fun c1 => ?_)
    · have h := h.1 c1
      exact hk54  σ _ _ ls h w (lv_sub hl [] rfl)
    · have h := h.2 c1
      refine lv_iload X.1 X.2.1 dX1_stateAt_14 (lv_at hl 4 rfl) ?_
      refine lv_bipush (v := 104) X.1 X.2.1 dX1_stateAt_16 (by decide) ?_
      refine lv_icmp_ge (tgt := 54) X.1 X.2.1 dX1_stateAt_18 (by decide) (fun c2 => ?_) (fun c2 => ?_)
      · have h := h.1 c2
        exact hk54  σ _ _ ls h w (lv_sub hl [] rfl)
      · have h := h.2 c2
        refine lv_aload_n X.1 X.2.1 dX1_stateAt_21 rfl (lv_at hl 0 rfl) ?_
        refine tw_get X hK w 1 iw_X1_stateAt_1 h0 (by decide) rfl 1 (by decide) (List.mem_of_getElem? (i := 2) rfl) rfl dX1_stateAt_22 ?_
        refine lv_iload X.1 X.2.1 dX1_stateAt_25 (lv_at hl 4 rfl) ?_
        obtain ⟨hi3, h⟩ := h
        refine tw_iald X hK w (tw_t_1_1 hT h0) (tw_n_1_1 hT h0) hi3 dX1_stateAt_27 ?_
        refine lv_iload_n X.1 X.2.1 dX1_stateAt_28 rfl (lv_at hl 1 rfl) ?_
        refine lv_icmp_ne (tgt := 48) X.1 X.2.1 dX1_stateAt_29 (by decide) (fun c4 => ?_) (fun c4 => ?_)
        · have h := h.1 c4
          refine lv_iinc (v := (x4 + 1)) (lv' := [(4, .int (x4 + 1)), (0, .ref a0), (1, .int x1), (2, .int x2), (3, .int x3)]) X.1 X.2.1 dX1_stateAt_48 hl (k := 4) rfl rfl (by decide) rfl (fun ls hl => ?_)
          refine lv_goto (tgt := 5) X.1 X.2.1 dX1_stateAt_51 (by decide) ?_
          exact ih x3 (x4 + 1) σ _ _ ls h w (lv_sub hl [1, 2, 3, 4, 0] rfl)
        · have h := h.2 c4
          refine lv_iload_n X.1 X.2.1 dX1_stateAt_32 rfl (lv_at hl 3 rfl) ?_
          refine lv_iload_n X.1 X.2.1 dX1_stateAt_33 rfl (lv_at hl 2 rfl) ?_
          refine lv_icmp_ne (tgt := 45) X.1 X.2.1 dX1_stateAt_34 (by decide) (fun c5 => ?_) (fun c5 => ?_)
          · have h := h.1 c5
            refine lv_iinc (v := (x3 + 1)) (lv' := [(3, .int (x3 + 1)), (0, .ref a0), (1, .int x1), (2, .int x2), (4, .int x4)]) X.1 X.2.1 dX1_stateAt_45 hl (k := 3) rfl rfl (by decide) rfl (fun ls hl => ?_)
            refine lv_iinc (v := (x4 + 1)) (lv' := [(4, .int (x4 + 1)), (3, .int (x3 + 1)), (0, .ref a0), (1, .int x1), (2, .int x2)]) X.1 X.2.1 dX1_stateAt_48 hl (k := 4) rfl rfl (by decide) rfl (fun ls hl => ?_)
            refine lv_goto (tgt := 5) X.1 X.2.1 dX1_stateAt_51 (by decide) ?_
            exact ih (x3 + 1) (x4 + 1) σ _ _ ls h w (lv_sub hl [2, 3, 4, 1, 0] rfl)
          · have h := h.2 c5
            exact hk37 x4 σ _ _ ls h w (lv_sub hl [0, 4] rfl)
set_option maxHeartbeats 4000000 in
set_option maxRecDepth 100000 in
theorem ct_X1_stateAt (l : Launch) (D : va_G) (g : tw_G) (hT : tw_T g) (sz : Nat) (σ : tw_S) (a0 : Nat) (h0 : tw_is g 1 a0) (x1 : Int32) (x2 : Int32) (Q : Int32 → tw_S → Prop) (h : wp_X1_stateAt g σ a0 x1 x2 Q) : tw_Mi l yX1_stateAt wsX1_stateAt RM_X1_stateAt D g sz σ [.ref a0, .int x1, .int x2] Q := by
  refine Met.ofW (cc := cX1_stateAt) (maxL := 5) (ret := (some .int)) (by decide) rfl ?_
  intro p e s m args below meth c s₁ B hml hv
  obtain ⟨rfl, hsz, hP, hK, hD0⟩ := hv
  subst hsz
  have hr := B.returns
  have hlk := B.notSynchronized
  have X : CallFix p m c cX1_stateAt 5 s _ wsX1_stateAt RX1 := ⟨B.exec, B.bytes, hml, findClass_of_methodNamed B.named, atoms_spec (ws := wsX1_stateAt) B.pre⟩
  have w := tw_w0 hP hD0
  have hl := lv_entry ([.ref a0, .int x1, .int x2]) (n := 5) (Nat.le_of_ble_eq_true rfl)
  rw [lg_entry_eq]
  generalize (lg_sl ([.ref a0, .int x1, .int x2]) ++ List.replicate (5 - (lg_sl ([.ref a0, .int x1, .int x2])).length) Slot.unset).toArray = ls at hl ⊢
  have hl : lv_has ls 5 [(0, .ref a0), (1, .int x1), (2, .int x2)] := hl
  unfold wp_X1_stateAt at h
  refine lv_iconst (v := 0) X.1 X.2.1 dX1_stateAt_0 (by decide) ?_
  refine lv_istore_n (lv' := [(3, .int (0 : Int32)), (0, .ref a0), (1, .int x1), (2, .int x2)]) X.1 X.2.1 dX1_stateAt_1 rfl hl (by decide) rfl (fun ls hl => ?_)
  refine lv_iconst (v := 0) X.1 X.2.1 dX1_stateAt_2 (by decide) ?_
  refine lv_istore (lv' := [(4, .int (0 : Int32)), (3, .int (0 : Int32)), (0, .ref a0), (1, .int x1), (2, .int x2)]) X.1 X.2.1 dX1_stateAt_3 hl (by decide) rfl (fun ls hl => ?_)
  obtain ⟨n5, h⟩ := h
  refine lp_X1_stateAt_5 X hr hlk hK hT h0 (fun v6 σ7 H locs ls h w hl => ?_) (fun σ9 H locs ls h w hl => ?_) n5 (0 : Int32) (0 : Int32) σ _ _ ls h w (lv_sub hl [2, 3, 4, 1, 0] rfl)
  · skip
    refine lv_aload_n X.1 X.2.1 dX1_stateAt_37 rfl (lv_at hl 0 rfl) ?_
    refine tw_get X hK w 1 iw_X1_stateAt_1 h0 (by decide) rfl 2 (by decide) (List.mem_of_getElem? (i := 3) rfl) rfl dX1_stateAt_38 ?_
    refine lv_iload X.1 X.2.1 dX1_stateAt_41 (lv_at hl 1 rfl) ?_
    obtain ⟨hi8, h⟩ := h
    refine tw_iald X hK w (tw_t_1_2 hT h0) (tw_n_1_2 hT h0) hi8 dX1_stateAt_43 ?_
    exact tw_iret X hr hlk w h dX1_stateAt_44
  · skip
    refine lv_iconst (v := -1) X.1 X.2.1 dX1_stateAt_54 (by decide) ?_
    exact tw_iret X hr hlk w h dX1_stateAt_55

abbrev RM_X1_countGaps : Room := { frames := 1, cells := 0, slots := 0, locals := 23 }
def wl_X1_countGaps_4 (g : tw_G) (a0 : Nat) (x1 : Int32) (Q : Int32 → tw_S → Prop) (k26 : Int32 → tw_S → Prop) : Nat → Int32 → Int32 → tw_S → Prop
  | 0, _, _, _ => False
  | n + 1, x2, x3, σ => ((x1 < x3) → k26 x2 σ) ∧ (¬ (x1 < x3) → wp_X1_howOften g σ a0 x3 (fun r3 σ2 => ((r3 ≤ 0) → wl_X1_countGaps_4 g a0 x1 Q k26 n x2 (x3 + 1) σ2) ∧ (¬ (r3 ≤ 0) → wl_X1_countGaps_4 g a0 x1 Q k26 n (x2 + 1) (x3 + 1) σ2)))
def wp_X1_countGaps (g : tw_G) (σ : tw_S) (a0 : Nat) (x1 : Int32) (Q : Int32 → tw_S → Prop) : Prop := ∃ n4, wl_X1_countGaps_4 g a0 x1 Q (fun v5 σ6 => Q v5 σ6) n4 (0 : Int32) (0 : Int32) σ
set_option maxHeartbeats 4000000 in
set_option maxRecDepth 100000 in
theorem lp_X1_countGaps_4 {p : Program} {l : Launch} {e : Env} {s : State} {m : MethodId} {args : Array Value} {below : List Frame} {meth : Method} {c : Code} {D : va_G} {g : tw_G} (X : CallFix p m c cX1_countGaps 4 s args wsX1_countGaps RX1) (hr : meth.sig.returnType = (some .int)) (hlk : meth.locks = false) (hK : tw_k D g s) (hT : tw_T g) {a0 : Nat} {x1 : Int32} (h0 : tw_is g 1 a0) {Q : Int32 → tw_S → Prop} {k26 : Int32 → tw_S → Prop}
    (hk26 : ∀ (x2 : Int32) (σ : tw_S) (H : Heap) (locs : List Loc) (ls : Array Slot), k26 x2 σ → tw_w D g (tw_F g s.heap.size) s σ H locs → lv_has ls 4 [(2, .int x2)] → W p l e RM_X1_countGaps s m args below meth c H locs 0 0 (tw_Qi Q D g below args s) (F0 m 26 ls []))
    : ∀ (n : Nat) (x2 : Int32) (x3 : Int32) (σ : tw_S) (H : Heap) (locs : List Loc) (ls : Array Slot), wl_X1_countGaps_4 g a0 x1 Q k26 n x2 x3 σ → tw_w D g (tw_F g s.heap.size) s σ H locs → lv_has ls 4 [(0, .ref a0), (1, .int x1), (2, .int x2), (3, .int x3)] → W p l e RM_X1_countGaps s m args below meth c H locs 0 0 (tw_Qi Q D g below args s) (F0 m 4 ls []) := by
  intro n
  induction n with
  | zero =>
    intro x2 x3 σ H locs ls h w hl
    exact False.elim h
  | succ n ih =>
    intro x2 x3 σ H locs ls h w hl
    rw [wl_X1_countGaps_4] at h
    refine lv_iload_n X.1 X.2.1 dX1_countGaps_4 rfl (lv_at hl 3 rfl) ?_
    refine lv_iload_n X.1 X.2.1 dX1_countGaps_5 rfl (lv_at hl 1 rfl) ?_
    refine lv_icmp_gt (tgt := 26) X.1 X.2.1 dX1_countGaps_6 (by decide) (fun c1 => ?_) (fun c1 => ?_)
    · have h := h.1 c1
      exact hk26 x2 σ _ _ ls h w (lv_sub hl [2] rfl)
    · have h := h.2 c1
      refine lv_aload_n X.1 X.2.1 dX1_countGaps_9 rfl (lv_at hl 0 rfl) ?_
      refine lv_iload_n X.1 X.2.1 dX1_countGaps_10 rfl (lv_at hl 3 rfl) ?_
      refine tw_ci w (va_runV (As := [.int x3]) (rest := []) X (ct_X1_howOften l D g hT _ σ a0 h0 x3 _ h) (cwV 1 X.2.2.2.2 gX1_countGaps_X1_howOften rfl rfl rfl (by decide +kernel) ⟨Nat.le_of_ble_eq_true rfl, Nat.le_of_ble_eq_true rfl⟩) (tw_preV hK w h0 (by decide) rfl [.int x3]) rfl rfl hl.1 rfl (lv_room (Nat.le_of_ble_eq_true rfl)) dX1_countGaps_11 ⟨Nat.zero_le _, Nat.zero_le _⟩) (fun r3 σ2 H locs h w => ?_)
      refine lv_if_le (tgt := 20) X.1 X.2.1 dX1_countGaps_14 (by decide) (fun c4 => ?_) (fun c4 => ?_)
      · have h := h.1 c4
        refine lv_iinc (v := (x3 + 1)) (lv' := [(3, .int (x3 + 1)), (0, .ref a0), (1, .int x1), (2, .int x2)]) X.1 X.2.1 dX1_countGaps_20 hl (k := 3) rfl rfl (by decide) rfl (fun ls hl => ?_)
        refine lv_goto (tgt := 4) X.1 X.2.1 dX1_countGaps_23 (by decide) ?_
        exact ih x2 (x3 + 1) σ2 _ _ ls h w (lv_sub hl [1, 2, 3, 0] rfl)
      · have h := h.2 c4
        refine lv_iinc (v := (x2 + 1)) (lv' := [(2, .int (x2 + 1)), (0, .ref a0), (1, .int x1), (3, .int x3)]) X.1 X.2.1 dX1_countGaps_17 hl (k := 2) rfl rfl (by decide) rfl (fun ls hl => ?_)
        refine lv_iinc (v := (x3 + 1)) (lv' := [(3, .int (x3 + 1)), (2, .int (x2 + 1)), (0, .ref a0), (1, .int x1)]) X.1 X.2.1 dX1_countGaps_20 hl (k := 3) rfl rfl (by decide) rfl (fun ls hl => ?_)
        refine lv_goto (tgt := 4) X.1 X.2.1 dX1_countGaps_23 (by decide) ?_
        exact ih (x2 + 1) (x3 + 1) σ2 _ _ ls h w (lv_sub hl [2, 3, 1, 0] rfl)
set_option maxHeartbeats 4000000 in
set_option maxRecDepth 100000 in
theorem ct_X1_countGaps (l : Launch) (D : va_G) (g : tw_G) (hT : tw_T g) (sz : Nat) (σ : tw_S) (a0 : Nat) (h0 : tw_is g 1 a0) (x1 : Int32) (Q : Int32 → tw_S → Prop) (h : wp_X1_countGaps g σ a0 x1 Q) : tw_Mi l yX1_countGaps wsX1_countGaps RM_X1_countGaps D g sz σ [.ref a0, .int x1] Q := by
  refine Met.ofW (cc := cX1_countGaps) (maxL := 4) (ret := (some .int)) (by decide) rfl ?_
  intro p e s m args below meth c s₁ B hml hv
  obtain ⟨rfl, hsz, hP, hK, hD0⟩ := hv
  subst hsz
  have hr := B.returns
  have hlk := B.notSynchronized
  have X : CallFix p m c cX1_countGaps 4 s _ wsX1_countGaps RX1 := ⟨B.exec, B.bytes, hml, findClass_of_methodNamed B.named, atoms_spec (ws := wsX1_countGaps) B.pre⟩
  have w := tw_w0 hP hD0
  have hl := lv_entry ([.ref a0, .int x1]) (n := 4) (Nat.le_of_ble_eq_true rfl)
  rw [lg_entry_eq]
  generalize (lg_sl ([.ref a0, .int x1]) ++ List.replicate (4 - (lg_sl ([.ref a0, .int x1])).length) Slot.unset).toArray = ls at hl ⊢
  have hl : lv_has ls 4 [(0, .ref a0), (1, .int x1)] := hl
  unfold wp_X1_countGaps at h
  refine lv_iconst (v := 0) X.1 X.2.1 dX1_countGaps_0 (by decide) ?_
  refine lv_istore_n (lv' := [(2, .int (0 : Int32)), (0, .ref a0), (1, .int x1)]) X.1 X.2.1 dX1_countGaps_1 rfl hl (by decide) rfl (fun ls hl => ?_)
  refine lv_iconst (v := 0) X.1 X.2.1 dX1_countGaps_2 (by decide) ?_
  refine lv_istore_n (lv' := [(3, .int (0 : Int32)), (2, .int (0 : Int32)), (0, .ref a0), (1, .int x1)]) X.1 X.2.1 dX1_countGaps_3 rfl hl (by decide) rfl (fun ls hl => ?_)
  obtain ⟨n4, h⟩ := h
  refine lp_X1_countGaps_4 X hr hlk hK hT h0 (fun v5 σ6 H locs ls h w hl => ?_) n4 (0 : Int32) (0 : Int32) σ _ _ ls h w (lv_sub hl [2, 3, 1, 0] rfl)
  · skip
    refine lv_iload_n X.1 X.2.1 dX1_countGaps_26 rfl (lv_at hl 0 rfl) ?_
    exact tw_iret X hr hlk w h dX1_countGaps_27

abbrev RM_X1_busiestGap : Room := { frames := 1, cells := 0, slots := 0, locals := 23 }
def wl_X1_busiestGap_7 (g : tw_G) (a0 : Nat) (x1 : Int32) (Q : Int32 → tw_S → Prop) (k39 : Int32 → tw_S → Prop) : Nat → Int32 → Int32 → Int32 → tw_S → Prop
  | 0, _, _, _, _ => False
  | n + 1, x2, x3, x4, σ => ((x1 < x4) → k39 x2 σ) ∧ (¬ (x1 < x4) → wp_X1_howOften g σ a0 x4 (fun r3 σ2 => ((r3 ≤ x3) → wl_X1_busiestGap_7 g a0 x1 Q k39 n x2 x3 (x4 + 1) σ2) ∧ (¬ (r3 ≤ x3) → wl_X1_busiestGap_7 g a0 x1 Q k39 n x4 r3 (x4 + 1) σ2)))
def wp_X1_busiestGap (g : tw_G) (σ : tw_S) (a0 : Nat) (x1 : Int32) (Q : Int32 → tw_S → Prop) : Prop := ∃ n7, wl_X1_busiestGap_7 g a0 x1 Q (fun v5 σ6 => Q v5 σ6) n7 (-1 : Int32) (0 : Int32) (0 : Int32) σ
set_option maxHeartbeats 4000000 in
set_option maxRecDepth 100000 in
theorem lp_X1_busiestGap_7 {p : Program} {l : Launch} {e : Env} {s : State} {m : MethodId} {args : Array Value} {below : List Frame} {meth : Method} {c : Code} {D : va_G} {g : tw_G} (X : CallFix p m c cX1_busiestGap 6 s args wsX1_busiestGap RX1) (hr : meth.sig.returnType = (some .int)) (hlk : meth.locks = false) (hK : tw_k D g s) (hT : tw_T g) {a0 : Nat} {x1 : Int32} (h0 : tw_is g 1 a0) {Q : Int32 → tw_S → Prop} {k39 : Int32 → tw_S → Prop}
    (hk39 : ∀ (x2 : Int32) (σ : tw_S) (H : Heap) (locs : List Loc) (ls : Array Slot), k39 x2 σ → tw_w D g (tw_F g s.heap.size) s σ H locs → lv_has ls 6 [(2, .int x2)] → W p l e RM_X1_busiestGap s m args below meth c H locs 0 0 (tw_Qi Q D g below args s) (F0 m 39 ls []))
    : ∀ (n : Nat) (x2 : Int32) (x3 : Int32) (x4 : Int32) (σ : tw_S) (H : Heap) (locs : List Loc) (ls : Array Slot), wl_X1_busiestGap_7 g a0 x1 Q k39 n x2 x3 x4 σ → tw_w D g (tw_F g s.heap.size) s σ H locs → lv_has ls 6 [(0, .ref a0), (1, .int x1), (2, .int x2), (3, .int x3), (4, .int x4)] → W p l e RM_X1_busiestGap s m args below meth c H locs 0 0 (tw_Qi Q D g below args s) (F0 m 7 ls []) := by
  intro n
  induction n with
  | zero =>
    intro x2 x3 x4 σ H locs ls h w hl
    exact False.elim h
  | succ n ih =>
    intro x2 x3 x4 σ H locs ls h w hl
    rw [wl_X1_busiestGap_7] at h
    refine lv_iload X.1 X.2.1 dX1_busiestGap_7 (lv_at hl 4 rfl) ?_
    refine lv_iload_n X.1 X.2.1 dX1_busiestGap_9 rfl (lv_at hl 1 rfl) ?_
    refine lv_icmp_gt (tgt := 39) X.1 X.2.1 dX1_busiestGap_10 (by decide) (fun c1 => ?_) (fun c1 => ?_)
    · have h := h.1 c1
      exact hk39 x2 σ _ _ ls h w (lv_sub hl [2] rfl)
    · have h := h.2 c1
      refine lv_aload_n X.1 X.2.1 dX1_busiestGap_13 rfl (lv_at hl 0 rfl) ?_
      refine lv_iload X.1 X.2.1 dX1_busiestGap_14 (lv_at hl 4 rfl) ?_
      refine tw_ci w (va_runV (As := [.int x4]) (rest := []) X (ct_X1_howOften l D g hT _ σ a0 h0 x4 _ h) (cwV 1 X.2.2.2.2 gX1_busiestGap_X1_howOften rfl rfl rfl (by decide +kernel) ⟨Nat.le_of_ble_eq_true rfl, Nat.le_of_ble_eq_true rfl⟩) (tw_preV hK w h0 (by decide) rfl [.int x4]) rfl rfl hl.1 rfl (lv_room (Nat.le_of_ble_eq_true rfl)) dX1_busiestGap_16 ⟨Nat.zero_le _, Nat.zero_le _⟩) (fun r3 σ2 H locs h w => ?_)
      refine lv_istore (lv' := [(5, .int r3), (0, .ref a0), (1, .int x1), (2, .int x2), (3, .int x3), (4, .int x4)]) X.1 X.2.1 dX1_busiestGap_19 hl (by decide) rfl (fun ls hl => ?_)
      refine lv_iload X.1 X.2.1 dX1_busiestGap_21 (lv_at hl 0 rfl) ?_
      refine lv_iload_n X.1 X.2.1 dX1_busiestGap_23 rfl (lv_at hl 4 rfl) ?_
      refine lv_icmp_le (tgt := 33) X.1 X.2.1 dX1_busiestGap_24 (by decide) (fun c4 => ?_) (fun c4 => ?_)
      · have h := h.1 c4
        refine lv_iinc (v := (x4 + 1)) (lv' := [(4, .int (x4 + 1)), (5, .int r3), (0, .ref a0), (1, .int x1), (2, .int x2), (3, .int x3)]) X.1 X.2.1 dX1_busiestGap_33 hl (k := 5) rfl rfl (by decide) rfl (fun ls hl => ?_)
        refine lv_goto (tgt := 7) X.1 X.2.1 dX1_busiestGap_36 (by decide) ?_
        exact ih x2 x3 (x4 + 1) σ2 _ _ ls h w (lv_sub hl [2, 3, 4, 5, 0] rfl)
      · have h := h.2 c4
        refine lv_iload X.1 X.2.1 dX1_busiestGap_27 (lv_at hl 0 rfl) ?_
        refine lv_istore_n (lv' := [(3, .int r3), (5, .int r3), (0, .ref a0), (1, .int x1), (2, .int x2), (4, .int x4)]) X.1 X.2.1 dX1_busiestGap_29 rfl hl (by decide) rfl (fun ls hl => ?_)
        have hl := lv_sub (l' := [(3, .int r3), (0, .ref a0), (1, .int x1), (4, .int x4)]) hl [0, 2, 3, 5] rfl
        refine lv_iload X.1 X.2.1 dX1_busiestGap_30 (lv_at hl 3 rfl) ?_
        refine lv_istore_n (lv' := [(2, .int x4), (3, .int r3), (0, .ref a0), (1, .int x1), (4, .int x4)]) X.1 X.2.1 dX1_busiestGap_32 rfl hl (by decide) rfl (fun ls hl => ?_)
        refine lv_iinc (v := (x4 + 1)) (lv' := [(4, .int (x4 + 1)), (2, .int x4), (3, .int r3), (0, .ref a0), (1, .int x1)]) X.1 X.2.1 dX1_busiestGap_33 hl (k := 4) rfl rfl (by decide) rfl (fun ls hl => ?_)
        refine lv_goto (tgt := 7) X.1 X.2.1 dX1_busiestGap_36 (by decide) ?_
        exact ih x4 r3 (x4 + 1) σ2 _ _ ls h w (lv_sub hl [3, 4, 1, 2, 0] rfl)
set_option maxHeartbeats 4000000 in
set_option maxRecDepth 100000 in
theorem ct_X1_busiestGap (l : Launch) (D : va_G) (g : tw_G) (hT : tw_T g) (sz : Nat) (σ : tw_S) (a0 : Nat) (h0 : tw_is g 1 a0) (x1 : Int32) (Q : Int32 → tw_S → Prop) (h : wp_X1_busiestGap g σ a0 x1 Q) : tw_Mi l yX1_busiestGap wsX1_busiestGap RM_X1_busiestGap D g sz σ [.ref a0, .int x1] Q := by
  refine Met.ofW (cc := cX1_busiestGap) (maxL := 6) (ret := (some .int)) (by decide) rfl ?_
  intro p e s m args below meth c s₁ B hml hv
  obtain ⟨rfl, hsz, hP, hK, hD0⟩ := hv
  subst hsz
  have hr := B.returns
  have hlk := B.notSynchronized
  have X : CallFix p m c cX1_busiestGap 6 s _ wsX1_busiestGap RX1 := ⟨B.exec, B.bytes, hml, findClass_of_methodNamed B.named, atoms_spec (ws := wsX1_busiestGap) B.pre⟩
  have w := tw_w0 hP hD0
  have hl := lv_entry ([.ref a0, .int x1]) (n := 6) (Nat.le_of_ble_eq_true rfl)
  rw [lg_entry_eq]
  generalize (lg_sl ([.ref a0, .int x1]) ++ List.replicate (6 - (lg_sl ([.ref a0, .int x1])).length) Slot.unset).toArray = ls at hl ⊢
  have hl : lv_has ls 6 [(0, .ref a0), (1, .int x1)] := hl
  unfold wp_X1_busiestGap at h
  refine lv_iconst (v := -1) X.1 X.2.1 dX1_busiestGap_0 (by decide) ?_
  refine lv_istore_n (lv' := [(2, .int (-1 : Int32)), (0, .ref a0), (1, .int x1)]) X.1 X.2.1 dX1_busiestGap_1 rfl hl (by decide) rfl (fun ls hl => ?_)
  refine lv_iconst (v := 0) X.1 X.2.1 dX1_busiestGap_2 (by decide) ?_
  refine lv_istore_n (lv' := [(3, .int (0 : Int32)), (2, .int (-1 : Int32)), (0, .ref a0), (1, .int x1)]) X.1 X.2.1 dX1_busiestGap_3 rfl hl (by decide) rfl (fun ls hl => ?_)
  refine lv_iconst (v := 0) X.1 X.2.1 dX1_busiestGap_4 (by decide) ?_
  refine lv_istore (lv' := [(4, .int (0 : Int32)), (3, .int (0 : Int32)), (2, .int (-1 : Int32)), (0, .ref a0), (1, .int x1)]) X.1 X.2.1 dX1_busiestGap_5 hl (by decide) rfl (fun ls hl => ?_)
  obtain ⟨n7, h⟩ := h
  refine lp_X1_busiestGap_7 X hr hlk hK hT h0 (fun v5 σ6 H locs ls h w hl => ?_) n7 (-1 : Int32) (0 : Int32) (0 : Int32) σ _ _ ls h w (lv_sub hl [3, 4, 2, 1, 0] rfl)
  · skip
    refine lv_iload_n X.1 X.2.1 dX1_busiestGap_39 rfl (lv_at hl 0 rfl) ?_
    exact tw_iret X hr hlk w h dX1_busiestGap_40

abbrev RM_X5_hasState : Room := { frames := 0, cells := 0, slots := 0, locals := 0 }
theorem iw_X5_hasState_5 : ∀ w ∈ wsX50, w ∈ wsX5_hasState := fun w h => List.mem_cons_of_mem _ (List.mem_append_right _ (h))
def wp_X5_hasState (g : tw_G) (σ : tw_S) (a0 : Nat) (x1 : Int32) (Q : Int32 → tw_S → Prop) : Prop := ((x1 < 0) → Q (0 : Int32) σ) ∧ (¬ (x1 < 0) → (((tw_I σ a0 14) ≤ x1) → Q (0 : Int32) σ) ∧ (¬ ((tw_I σ a0 14) ≤ x1) → (((150 : Int32) ≤ x1) → Q (0 : Int32) σ) ∧ (¬ ((150 : Int32) ≤ x1) → Q (1 : Int32) σ)))
set_option maxHeartbeats 4000000 in
set_option maxRecDepth 100000 in
theorem ct_X5_hasState (l : Launch) (D : va_G) (g : tw_G) (hT : tw_T g) (sz : Nat) (σ : tw_S) (a0 : Nat) (h0 : tw_is g 5 a0) (x1 : Int32) (Q : Int32 → tw_S → Prop) (h : wp_X5_hasState g σ a0 x1 Q) : tw_Mi l yX5_hasState wsX5_hasState RM_X5_hasState D g sz σ [.ref a0, .int x1] Q := by
  refine Met.ofW (cc := cX5_hasState) (maxL := 2) (ret := (some .boolean)) (by decide) rfl ?_
  intro p e s m args below meth c s₁ B hml hv
  obtain ⟨rfl, hsz, hP, hK, hD0⟩ := hv
  subst hsz
  have hr := B.returns
  have hlk := B.notSynchronized
  have X : CallFix p m c cX5_hasState 2 s _ wsX5_hasState RX5 := ⟨B.exec, B.bytes, hml, findClass_of_methodNamed B.named, atoms_spec (ws := wsX5_hasState) B.pre⟩
  have w := tw_w0 hP hD0
  have hl := lv_entry ([.ref a0, .int x1]) (n := 2) (Nat.le_of_ble_eq_true rfl)
  rw [lg_entry_eq]
  generalize (lg_sl ([.ref a0, .int x1]) ++ List.replicate (2 - (lg_sl ([.ref a0, .int x1])).length) Slot.unset).toArray = ls at hl ⊢
  have hl : lv_has ls 2 [(0, .ref a0), (1, .int x1)] := hl
  unfold wp_X5_hasState at h
  refine lv_iload_n X.1 X.2.1 dX5_hasState_0 rfl (lv_at hl 1 rfl) ?_
  refine lv_if_lt (tgt := 23) X.1 X.2.1 dX5_hasState_1 (by decide) (fun c1 => ?_) (fun c1 => ?_)
  · have h := h.1 c1
    refine lv_iconst (v := 0) X.1 X.2.1 dX5_hasState_23 (by decide) ?_
    exact tw_zret X hr hlk w (by decide) h dX5_hasState_24
  · have h := h.2 c1
    refine lv_iload_n X.1 X.2.1 dX5_hasState_4 rfl (lv_at hl 1 rfl) ?_
    refine lv_aload_n X.1 X.2.1 dX5_hasState_5 rfl (lv_at hl 0 rfl) ?_
    refine tw_get X hK w 5 iw_X5_hasState_5 h0 (by decide) rfl 14 (by decide) (List.mem_of_getElem? (i := 1) rfl) rfl dX5_hasState_6 ?_
    refine lv_icmp_ge (tgt := 23) X.1 X.2.1 dX5_hasState_9 (by decide) (fun c2 => ?_) (fun c2 => ?_)
    · have h := h.1 c2
      refine lv_iconst (v := 0) X.1 X.2.1 dX5_hasState_23 (by decide) ?_
      exact tw_zret X hr hlk w (by decide) h dX5_hasState_24
    · have h := h.2 c2
      refine lv_iload_n X.1 X.2.1 dX5_hasState_12 rfl (lv_at hl 1 rfl) ?_
      refine lv_sipush (v := 150) X.1 X.2.1 dX5_hasState_13 (by decide) ?_
      refine lv_icmp_ge (tgt := 23) X.1 X.2.1 dX5_hasState_16 (by decide) (fun c3 => ?_) (fun c3 => ?_)
      · have h := h.1 c3
        refine lv_iconst (v := 0) X.1 X.2.1 dX5_hasState_23 (by decide) ?_
        exact tw_zret X hr hlk w (by decide) h dX5_hasState_24
      · have h := h.2 c3
        refine lv_iconst (v := 1) X.1 X.2.1 dX5_hasState_19 (by decide) ?_
        refine lv_goto (tgt := 24) X.1 X.2.1 dX5_hasState_20 (by decide) ?_
        exact tw_zret X hr hlk w (by decide) h dX5_hasState_24

abbrev RM_X5_firstOff : Room := { frames := 1, cells := 0, slots := 0, locals := 21 }
theorem iw_X5_firstOff_5 : ∀ w ∈ wsX50, w ∈ wsX5_firstOff := fun w h => List.mem_cons_of_mem _ (List.mem_append_right _ (h))
def wp_X5_firstOff (g : tw_G) (σ : tw_S) (a0 : Nat) (x1 : Int32) (Q : Int32 → tw_S → Prop) : Prop := wp_X5_hasState g σ a0 x1 (fun r2 σ1 => ((r2 = 0) → Q (-1 : Int32) σ1) ∧ (¬ (r2 = 0) → vp_in ((5 : Int32) * x1) 750 ∧ Q (tw_A σ1 (tw_R g a0 1) ((5 : Int32) * x1).toNatClampNeg) σ1))
set_option maxHeartbeats 4000000 in
set_option maxRecDepth 100000 in
theorem ct_X5_firstOff (l : Launch) (D : va_G) (g : tw_G) (hT : tw_T g) (sz : Nat) (σ : tw_S) (a0 : Nat) (h0 : tw_is g 5 a0) (x1 : Int32) (Q : Int32 → tw_S → Prop) (h : wp_X5_firstOff g σ a0 x1 Q) : tw_Mi l yX5_firstOff wsX5_firstOff RM_X5_firstOff D g sz σ [.ref a0, .int x1] Q := by
  refine Met.ofW (cc := cX5_firstOff) (maxL := 2) (ret := (some .int)) (by decide) rfl ?_
  intro p e s m args below meth c s₁ B hml hv
  obtain ⟨rfl, hsz, hP, hK, hD0⟩ := hv
  subst hsz
  have hr := B.returns
  have hlk := B.notSynchronized
  have X : CallFix p m c cX5_firstOff 2 s _ wsX5_firstOff RX5 := ⟨B.exec, B.bytes, hml, findClass_of_methodNamed B.named, atoms_spec (ws := wsX5_firstOff) B.pre⟩
  have w := tw_w0 hP hD0
  have hl := lv_entry ([.ref a0, .int x1]) (n := 2) (Nat.le_of_ble_eq_true rfl)
  rw [lg_entry_eq]
  generalize (lg_sl ([.ref a0, .int x1]) ++ List.replicate (2 - (lg_sl ([.ref a0, .int x1])).length) Slot.unset).toArray = ls at hl ⊢
  have hl : lv_has ls 2 [(0, .ref a0), (1, .int x1)] := hl
  unfold wp_X5_firstOff at h
  refine lv_aload_n X.1 X.2.1 dX5_firstOff_0 rfl (lv_at hl 0 rfl) ?_
  refine lv_iload_n X.1 X.2.1 dX5_firstOff_1 rfl (lv_at hl 1 rfl) ?_
  refine tw_ci w (va_runV (As := [.int x1]) (rest := []) X (ct_X5_hasState l D g hT _ σ a0 h0 x1 _ h) (cwV 1 X.2.2.2.2 gX5_firstOff_X5_hasState rfl rfl rfl (by decide +kernel) ⟨Nat.le_of_ble_eq_true rfl, Nat.le_of_ble_eq_true rfl⟩) (tw_preV hK w h0 (by decide) rfl [.int x1]) rfl rfl hl.1 rfl (lv_room (Nat.le_of_ble_eq_true rfl)) dX5_firstOff_2 ⟨Nat.zero_le _, Nat.zero_le _⟩) (fun r2 σ1 H locs h w => ?_)
  refine lv_if_eq (tgt := 19) X.1 X.2.1 dX5_firstOff_5 (by decide) (fun c3 => ?_) (fun c3 => ?_)
  · have h := h.1 c3
    refine lv_iconst (v := -1) X.1 X.2.1 dX5_firstOff_19 (by decide) ?_
    exact tw_iret X hr hlk w h dX5_firstOff_20
  · have h := h.2 c3
    refine lv_aload_n X.1 X.2.1 dX5_firstOff_8 rfl (lv_at hl 0 rfl) ?_
    refine tw_get X hK w 5 iw_X5_firstOff_5 h0 (by decide) rfl 1 (by decide) (List.mem_of_getElem? (i := 1) rfl) rfl dX5_firstOff_9 ?_
    refine lv_iconst (v := 5) X.1 X.2.1 dX5_firstOff_12 (by decide) ?_
    refine lv_iload_n X.1 X.2.1 dX5_firstOff_13 rfl (lv_at hl 1 rfl) ?_
    refine lv_imul X.1 X.2.1 dX5_firstOff_14 ?_
    obtain ⟨hi4, h⟩ := h
    refine tw_iald X hK w (tw_t_5_1 hT h0) (tw_n_5_1 hT h0) hi4 dX5_firstOff_15 ?_
    refine lv_goto (tgt := 20) X.1 X.2.1 dX5_firstOff_16 (by decide) ?_
    exact tw_iret X hr hlk w h dX5_firstOff_20

abbrev RM_X5_comesBack : Room := { frames := 1, cells := 0, slots := 0, locals := 21 }
theorem iw_X5_comesBack_5 : ∀ w ∈ wsX50, w ∈ wsX5_comesBack := fun w h => List.mem_cons_of_mem _ (List.mem_append_right _ (h))
def wp_X5_comesBack (g : tw_G) (σ : tw_S) (a0 : Nat) (x1 : Int32) (x2 : Int32) (Q : Int32 → tw_S → Prop) : Prop := wp_X5_hasState g σ a0 x1 (fun r2 σ1 => ((r2 = 0) → (((0 : Int32) = 0) → Q (-1 : Int32) σ1) ∧ (¬ ((0 : Int32) = 0) → vp_in ((((5 : Int32) * x1) + (1 : Int32)) + x2) 750 ∧ Q (tw_A σ1 (tw_R g a0 1) ((((5 : Int32) * x1) + (1 : Int32)) + x2).toNatClampNeg) σ1)) ∧ (¬ (r2 = 0) → ((x2 < 0) → (((0 : Int32) = 0) → Q (-1 : Int32) σ1) ∧ (¬ ((0 : Int32) = 0) → vp_in ((((5 : Int32) * x1) + (1 : Int32)) + x2) 750 ∧ Q (tw_A σ1 (tw_R g a0 1) ((((5 : Int32) * x1) + (1 : Int32)) + x2).toNatClampNeg) σ1)) ∧ (¬ (x2 < 0) → (((4 : Int32) ≤ x2) → (((0 : Int32) = 0) → Q (-1 : Int32) σ1) ∧ (¬ ((0 : Int32) = 0) → vp_in ((((5 : Int32) * x1) + (1 : Int32)) + x2) 750 ∧ Q (tw_A σ1 (tw_R g a0 1) ((((5 : Int32) * x1) + (1 : Int32)) + x2).toNatClampNeg) σ1)) ∧ (¬ ((4 : Int32) ≤ x2) → (((1 : Int32) = 0) → Q (-1 : Int32) σ1) ∧ (¬ ((1 : Int32) = 0) → vp_in ((((5 : Int32) * x1) + (1 : Int32)) + x2) 750 ∧ Q (tw_A σ1 (tw_R g a0 1) ((((5 : Int32) * x1) + (1 : Int32)) + x2).toNatClampNeg) σ1)))))
set_option maxHeartbeats 4000000 in
set_option maxRecDepth 100000 in
theorem ct_X5_comesBack (l : Launch) (D : va_G) (g : tw_G) (hT : tw_T g) (sz : Nat) (σ : tw_S) (a0 : Nat) (h0 : tw_is g 5 a0) (x1 : Int32) (x2 : Int32) (Q : Int32 → tw_S → Prop) (h : wp_X5_comesBack g σ a0 x1 x2 Q) : tw_Mi l yX5_comesBack wsX5_comesBack RM_X5_comesBack D g sz σ [.ref a0, .int x1, .int x2] Q := by
  refine Met.ofW (cc := cX5_comesBack) (maxL := 4) (ret := (some .int)) (by decide) rfl ?_
  intro p e s m args below meth c s₁ B hml hv
  obtain ⟨rfl, hsz, hP, hK, hD0⟩ := hv
  subst hsz
  have hr := B.returns
  have hlk := B.notSynchronized
  have X : CallFix p m c cX5_comesBack 4 s _ wsX5_comesBack RX5 := ⟨B.exec, B.bytes, hml, findClass_of_methodNamed B.named, atoms_spec (ws := wsX5_comesBack) B.pre⟩
  have w := tw_w0 hP hD0
  have hl := lv_entry ([.ref a0, .int x1, .int x2]) (n := 4) (Nat.le_of_ble_eq_true rfl)
  rw [lg_entry_eq]
  generalize (lg_sl ([.ref a0, .int x1, .int x2]) ++ List.replicate (4 - (lg_sl ([.ref a0, .int x1, .int x2])).length) Slot.unset).toArray = ls at hl ⊢
  have hl : lv_has ls 4 [(0, .ref a0), (1, .int x1), (2, .int x2)] := hl
  unfold wp_X5_comesBack at h
  refine lv_aload_n X.1 X.2.1 dX5_comesBack_0 rfl (lv_at hl 0 rfl) ?_
  refine lv_iload_n X.1 X.2.1 dX5_comesBack_1 rfl (lv_at hl 1 rfl) ?_
  refine tw_ci w (va_runV (As := [.int x1]) (rest := []) X (ct_X5_hasState l D g hT _ σ a0 h0 x1 _ h) (cwV 1 X.2.2.2.2 gX5_comesBack_X5_hasState rfl rfl rfl (by decide +kernel) ⟨Nat.le_of_ble_eq_true rfl, Nat.le_of_ble_eq_true rfl⟩) (tw_preV hK w h0 (by decide) rfl [.int x1]) rfl rfl hl.1 rfl (lv_room (Nat.le_of_ble_eq_true rfl)) dX5_comesBack_2 ⟨Nat.zero_le _, Nat.zero_le _⟩) (fun r2 σ1 H locs h w => ?_)
  refine lv_if_eq (tgt := 21) X.1 X.2.1 dX5_comesBack_5 (by decide) (fun c3 => ?_) (fun c3 => ?_)
  · have h := h.1 c3
    refine lv_iconst (v := 0) X.1 X.2.1 dX5_comesBack_21 (by decide) ?_
    refine lv_istore_n (lv' := [(3, .int (0 : Int32)), (0, .ref a0), (1, .int x1), (2, .int x2)]) X.1 X.2.1 dX5_comesBack_22 rfl hl (by decide) rfl (fun ls hl => ?_)
    refine lv_iload_n X.1 X.2.1 dX5_comesBack_23 rfl (lv_at hl 0 rfl) ?_
    refine lv_if_eq (tgt := 42) X.1 X.2.1 dX5_comesBack_24 (by decide) (fun c4 => ?_) (fun c4 => ?_)
    · have h := h.1 c4
      refine lv_iconst (v := -1) X.1 X.2.1 dX5_comesBack_42 (by decide) ?_
      exact tw_iret X hr hlk w h dX5_comesBack_43
    · have h := h.2 c4
      refine lv_aload_n X.1 X.2.1 dX5_comesBack_27 rfl (lv_at hl 1 rfl) ?_
      refine tw_get X hK w 5 iw_X5_comesBack_5 h0 (by decide) rfl 1 (by decide) (List.mem_of_getElem? (i := 1) rfl) rfl dX5_comesBack_28 ?_
      refine lv_iconst (v := 5) X.1 X.2.1 dX5_comesBack_31 (by decide) ?_
      refine lv_iload_n X.1 X.2.1 dX5_comesBack_32 rfl (lv_at hl 2 rfl) ?_
      refine lv_imul X.1 X.2.1 dX5_comesBack_33 ?_
      refine lv_iconst (v := 1) X.1 X.2.1 dX5_comesBack_34 (by decide) ?_
      refine lv_iadd X.1 X.2.1 dX5_comesBack_35 ?_
      refine lv_iload_n X.1 X.2.1 dX5_comesBack_36 rfl (lv_at hl 3 rfl) ?_
      refine lv_iadd X.1 X.2.1 dX5_comesBack_37 ?_
      obtain ⟨hi5, h⟩ := h
      refine tw_iald X hK w (tw_t_5_1 hT h0) (tw_n_5_1 hT h0) hi5 dX5_comesBack_38 ?_
      refine lv_goto (tgt := 43) X.1 X.2.1 dX5_comesBack_39 (by decide) ?_
      exact tw_iret X hr hlk w h dX5_comesBack_43
  · have h := h.2 c3
    refine lv_iload_n X.1 X.2.1 dX5_comesBack_8 rfl (lv_at hl 2 rfl) ?_
    refine lv_if_lt (tgt := 21) X.1 X.2.1 dX5_comesBack_9 (by decide) (fun c6 => ?_) (fun c6 => ?_)
    · have h := h.1 c6
      refine lv_iconst (v := 0) X.1 X.2.1 dX5_comesBack_21 (by decide) ?_
      refine lv_istore_n (lv' := [(3, .int (0 : Int32)), (0, .ref a0), (1, .int x1), (2, .int x2)]) X.1 X.2.1 dX5_comesBack_22 rfl hl (by decide) rfl (fun ls hl => ?_)
      refine lv_iload_n X.1 X.2.1 dX5_comesBack_23 rfl (lv_at hl 0 rfl) ?_
      refine lv_if_eq (tgt := 42) X.1 X.2.1 dX5_comesBack_24 (by decide) (fun c7 => ?_) (fun c7 => ?_)
      · have h := h.1 c7
        refine lv_iconst (v := -1) X.1 X.2.1 dX5_comesBack_42 (by decide) ?_
        exact tw_iret X hr hlk w h dX5_comesBack_43
      · have h := h.2 c7
        refine lv_aload_n X.1 X.2.1 dX5_comesBack_27 rfl (lv_at hl 1 rfl) ?_
        refine tw_get X hK w 5 iw_X5_comesBack_5 h0 (by decide) rfl 1 (by decide) (List.mem_of_getElem? (i := 1) rfl) rfl dX5_comesBack_28 ?_
        refine lv_iconst (v := 5) X.1 X.2.1 dX5_comesBack_31 (by decide) ?_
        refine lv_iload_n X.1 X.2.1 dX5_comesBack_32 rfl (lv_at hl 2 rfl) ?_
        refine lv_imul X.1 X.2.1 dX5_comesBack_33 ?_
        refine lv_iconst (v := 1) X.1 X.2.1 dX5_comesBack_34 (by decide) ?_
        refine lv_iadd X.1 X.2.1 dX5_comesBack_35 ?_
        refine lv_iload_n X.1 X.2.1 dX5_comesBack_36 rfl (lv_at hl 3 rfl) ?_
        refine lv_iadd X.1 X.2.1 dX5_comesBack_37 ?_
        obtain ⟨hi8, h⟩ := h
        refine tw_iald X hK w (tw_t_5_1 hT h0) (tw_n_5_1 hT h0) hi8 dX5_comesBack_38 ?_
        refine lv_goto (tgt := 43) X.1 X.2.1 dX5_comesBack_39 (by decide) ?_
        exact tw_iret X hr hlk w h dX5_comesBack_43
    · have h := h.2 c6
      refine lv_iload_n X.1 X.2.1 dX5_comesBack_12 rfl (lv_at hl 2 rfl) ?_
      refine lv_iconst (v := 4) X.1 X.2.1 dX5_comesBack_13 (by decide) ?_
      refine lv_icmp_ge (tgt := 21) X.1 X.2.1 dX5_comesBack_14 (by decide) (fun c9 => ?_) (fun c9 => ?_)
      · have h := h.1 c9
        refine lv_iconst (v := 0) X.1 X.2.1 dX5_comesBack_21 (by decide) ?_
        refine lv_istore_n (lv' := [(3, .int (0 : Int32)), (0, .ref a0), (1, .int x1), (2, .int x2)]) X.1 X.2.1 dX5_comesBack_22 rfl hl (by decide) rfl (fun ls hl => ?_)
        refine lv_iload_n X.1 X.2.1 dX5_comesBack_23 rfl (lv_at hl 0 rfl) ?_
        refine lv_if_eq (tgt := 42) X.1 X.2.1 dX5_comesBack_24 (by decide) (fun c10 => ?_) (fun c10 => ?_)
        · have h := h.1 c10
          refine lv_iconst (v := -1) X.1 X.2.1 dX5_comesBack_42 (by decide) ?_
          exact tw_iret X hr hlk w h dX5_comesBack_43
        · have h := h.2 c10
          refine lv_aload_n X.1 X.2.1 dX5_comesBack_27 rfl (lv_at hl 1 rfl) ?_
          refine tw_get X hK w 5 iw_X5_comesBack_5 h0 (by decide) rfl 1 (by decide) (List.mem_of_getElem? (i := 1) rfl) rfl dX5_comesBack_28 ?_
          refine lv_iconst (v := 5) X.1 X.2.1 dX5_comesBack_31 (by decide) ?_
          refine lv_iload_n X.1 X.2.1 dX5_comesBack_32 rfl (lv_at hl 2 rfl) ?_
          refine lv_imul X.1 X.2.1 dX5_comesBack_33 ?_
          refine lv_iconst (v := 1) X.1 X.2.1 dX5_comesBack_34 (by decide) ?_
          refine lv_iadd X.1 X.2.1 dX5_comesBack_35 ?_
          refine lv_iload_n X.1 X.2.1 dX5_comesBack_36 rfl (lv_at hl 3 rfl) ?_
          refine lv_iadd X.1 X.2.1 dX5_comesBack_37 ?_
          obtain ⟨hi11, h⟩ := h
          refine tw_iald X hK w (tw_t_5_1 hT h0) (tw_n_5_1 hT h0) hi11 dX5_comesBack_38 ?_
          refine lv_goto (tgt := 43) X.1 X.2.1 dX5_comesBack_39 (by decide) ?_
          exact tw_iret X hr hlk w h dX5_comesBack_43
      · have h := h.2 c9
        refine lv_iconst (v := 1) X.1 X.2.1 dX5_comesBack_17 (by decide) ?_
        refine lv_goto (tgt := 22) X.1 X.2.1 dX5_comesBack_18 (by decide) ?_
        refine lv_istore_n (lv' := [(3, .int (1 : Int32)), (0, .ref a0), (1, .int x1), (2, .int x2)]) X.1 X.2.1 dX5_comesBack_22 rfl hl (by decide) rfl (fun ls hl => ?_)
        refine lv_iload_n X.1 X.2.1 dX5_comesBack_23 rfl (lv_at hl 0 rfl) ?_
        refine lv_if_eq (tgt := 42) X.1 X.2.1 dX5_comesBack_24 (by decide) (fun c12 => ?_) (fun c12 => ?_)
        · have h := h.1 c12
          refine lv_iconst (v := -1) X.1 X.2.1 dX5_comesBack_42 (by decide) ?_
          exact tw_iret X hr hlk w h dX5_comesBack_43
        · have h := h.2 c12
          refine lv_aload_n X.1 X.2.1 dX5_comesBack_27 rfl (lv_at hl 1 rfl) ?_
          refine tw_get X hK w 5 iw_X5_comesBack_5 h0 (by decide) rfl 1 (by decide) (List.mem_of_getElem? (i := 1) rfl) rfl dX5_comesBack_28 ?_
          refine lv_iconst (v := 5) X.1 X.2.1 dX5_comesBack_31 (by decide) ?_
          refine lv_iload_n X.1 X.2.1 dX5_comesBack_32 rfl (lv_at hl 2 rfl) ?_
          refine lv_imul X.1 X.2.1 dX5_comesBack_33 ?_
          refine lv_iconst (v := 1) X.1 X.2.1 dX5_comesBack_34 (by decide) ?_
          refine lv_iadd X.1 X.2.1 dX5_comesBack_35 ?_
          refine lv_iload_n X.1 X.2.1 dX5_comesBack_36 rfl (lv_at hl 3 rfl) ?_
          refine lv_iadd X.1 X.2.1 dX5_comesBack_37 ?_
          obtain ⟨hi13, h⟩ := h
          refine tw_iald X hK w (tw_t_5_1 hT h0) (tw_n_5_1 hT h0) hi13 dX5_comesBack_38 ?_
          refine lv_goto (tgt := 43) X.1 X.2.1 dX5_comesBack_39 (by decide) ?_
          exact tw_iret X hr hlk w h dX5_comesBack_43

abbrev RM_X5_goOff : Room := { frames := 2, cells := 0, slots := 0, locals := 44 }
theorem iw_X5_goOff_5 : ∀ w ∈ wsX50, w ∈ wsX5_goOff := fun w h => List.mem_cons_of_mem _ (List.mem_append_left _ (List.mem_append_right _ (h)))
def wl_X5_goOff_6 (g : tw_G) (a0 : Nat) (x1 : Int32) (x2 : Int32) (Q : Int32 → tw_S → Prop) (k36 : tw_S → Prop) (k47 : Int32 → tw_S → Prop) (k71 : tw_S → Prop) : Nat → Int32 → Int32 → tw_S → Prop
  | 0, _, _, _ => False
  | n + 1, x4, x5, σ => (((4 : Int32) ≤ x5) → k71  σ) ∧ (¬ ((4 : Int32) ≤ x5) → ((x4 = (-1 : Int32)) → k71  σ) ∧ (¬ (x4 = (-1 : Int32)) → wp_X3_at g σ (tw_R g a0 0) x4 x2 (fun r4 σ3 => ((¬ r4 = (-1 : Int32)) → wp_X8_sideOf g σ3 r4 (fun r7 σ6 => ((¬ r7 = (1 : Int32)) → wp_X8_stateOf g σ6 r4 (fun r10 σ9 => wp_X5_comesBack g σ9 a0 x1 r10 (fun r12 σ11 => wl_X5_goOff_6 g a0 x1 x2 Q k36 k47 k71 n r12 (x5 + 1) σ11))) ∧ ((r7 = (1 : Int32)) → k47 r4 σ6))) ∧ ((r4 = (-1 : Int32)) → k36  σ3))))
def wp_X5_goOff (g : tw_G) (σ : tw_S) (a0 : Nat) (x1 : Int32) (x2 : Int32) (x3 : Int32) (Q : Int32 → tw_S → Prop) : Prop := ∃ n6, wl_X5_goOff_6 g a0 x1 x2 Q (fun σ13 => Q (-1 : Int32) σ13) (fun v14 σ15 => wp_X8_stateOf g σ15 v14 (fun r17 σ16 => Q r17 σ16)) (fun σ18 => Q (-1 : Int32) σ18) n6 x3 (0 : Int32) σ
set_option maxHeartbeats 4000000 in
set_option maxRecDepth 100000 in
theorem lp_X5_goOff_6 {p : Program} {l : Launch} {e : Env} {s : State} {m : MethodId} {args : Array Value} {below : List Frame} {meth : Method} {c : Code} {D : va_G} {g : tw_G} (X : CallFix p m c cX5_goOff 7 s args wsX5_goOff RX5) (hr : meth.sig.returnType = (some .int)) (hlk : meth.locks = false) (hK : tw_k D g s) (hT : tw_T g) {a0 : Nat} {x1 : Int32} {x2 : Int32} (h0 : tw_is g 5 a0) {Q : Int32 → tw_S → Prop} {k36 : tw_S → Prop} {k47 : Int32 → tw_S → Prop} {k71 : tw_S → Prop}
    (hk36 : ∀  (σ : tw_S) (H : Heap) (locs : List Loc) (ls : Array Slot), k36  σ → tw_w D g (tw_F g s.heap.size) s σ H locs → lv_has ls 7 [] → W p l e RM_X5_goOff s m args below meth c H locs 0 0 (tw_Qi Q D g below args s) (F0 m 36 ls []))
    (hk47 : ∀ (x6 : Int32) (σ : tw_S) (H : Heap) (locs : List Loc) (ls : Array Slot), k47 x6 σ → tw_w D g (tw_F g s.heap.size) s σ H locs → lv_has ls 7 [(6, .int x6)] → W p l e RM_X5_goOff s m args below meth c H locs 0 0 (tw_Qi Q D g below args s) (F0 m 47 ls []))
    (hk71 : ∀  (σ : tw_S) (H : Heap) (locs : List Loc) (ls : Array Slot), k71  σ → tw_w D g (tw_F g s.heap.size) s σ H locs → lv_has ls 7 [] → W p l e RM_X5_goOff s m args below meth c H locs 0 0 (tw_Qi Q D g below args s) (F0 m 71 ls []))
    : ∀ (n : Nat) (x4 : Int32) (x5 : Int32) (σ : tw_S) (H : Heap) (locs : List Loc) (ls : Array Slot), wl_X5_goOff_6 g a0 x1 x2 Q k36 k47 k71 n x4 x5 σ → tw_w D g (tw_F g s.heap.size) s σ H locs → lv_has ls 7 [(0, .ref a0), (1, .int x1), (2, .int x2), (4, .int x4), (5, .int x5)] → W p l e RM_X5_goOff s m args below meth c H locs 0 0 (tw_Qi Q D g below args s) (F0 m 6 ls []) := by
  intro n
  induction n with
  | zero =>
    intro x4 x5 σ H locs ls h w hl
    exact False.elim h
  | succ n ih =>
    intro x4 x5 σ H locs ls h w hl
    rw [wl_X5_goOff_6] at h
    refine lv_iload X.1 X.2.1 dX5_goOff_6 (lv_at hl 4 rfl) ?_
    refine lv_iconst (v := 4) X.1 X.2.1 dX5_goOff_8 (by decide) ?_
    refine lv_icmp_ge (tgt := 71) X.1 X.2.1 dX5_goOff_9 (by decide) (fun c1 => ?_) (fun c1 => ?_)
    · have h := h.1 c1
      exact hk71  σ _ _ ls h w (lv_sub hl [] rfl)
    · have h := h.2 c1
      refine lv_iload X.1 X.2.1 dX5_goOff_12 (lv_at hl 3 rfl) ?_
      refine lv_iconst (v := -1) X.1 X.2.1 dX5_goOff_14 (by decide) ?_
      refine lv_icmp_eq (tgt := 71) X.1 X.2.1 dX5_goOff_15 (by decide) (fun c2 => ?_) (fun c2 => ?_)
      · have h := h.1 c2
        exact hk71  σ _ _ ls h w (lv_sub hl [] rfl)
      · have h := h.2 c2
        refine lv_aload_n X.1 X.2.1 dX5_goOff_18 rfl (lv_at hl 0 rfl) ?_
        refine tw_get X hK w 5 iw_X5_goOff_5 h0 (by decide) rfl 0 (by decide) (List.mem_of_getElem? (i := 1) rfl) rfl dX5_goOff_19 ?_
        refine lv_iload X.1 X.2.1 dX5_goOff_22 (lv_at hl 3 rfl) ?_
        refine lv_iload_n X.1 X.2.1 dX5_goOff_24 rfl (lv_at hl 2 rfl) ?_
        refine tw_ci w (va_runV (As := [.int x4, .int x2]) (rest := []) X (ct_X3_at l D g hT _ σ (tw_R g a0 0) (tw_t_5_0 hT h0) x4 x2 _ h) (cwV 2 X.2.2.2.2 gX5_goOff_X3_at rfl rfl rfl (by decide +kernel) ⟨Nat.le_of_ble_eq_true rfl, Nat.le_of_ble_eq_true rfl⟩) (tw_preV hK w (tw_t_5_0 hT h0) (by decide) rfl [.int x4, .int x2]) rfl rfl hl.1 rfl (lv_room (Nat.le_of_ble_eq_true rfl)) dX5_goOff_25 ⟨Nat.zero_le _, Nat.zero_le _⟩) (fun r4 σ3 H locs h w => ?_)
        refine lv_istore (lv' := [(6, .int r4), (0, .ref a0), (1, .int x1), (2, .int x2), (4, .int x4), (5, .int x5)]) X.1 X.2.1 dX5_goOff_28 hl (by decide) rfl (fun ls hl => ?_)
        have hl := lv_sub (l' := [(6, .int r4), (0, .ref a0), (1, .int x1), (2, .int x2), (5, .int x5)]) hl [0, 1, 2, 3, 5] rfl
        refine lv_iload X.1 X.2.1 dX5_goOff_30 (lv_at hl 0 rfl) ?_
        refine lv_iconst (v := -1) X.1 X.2.1 dX5_goOff_32 (by decide) ?_
        refine lv_icmp_ne (tgt := 38) X.1 X.2.1 dX5_goOff_33 (by decide) (fun c5 => ?_) (fun c5 => ?_)
        · have h := h.1 c5
          refine lv_iload X.1 X.2.1 dX5_goOff_38 (lv_at hl 0 rfl) ?_
          refine tw_ci w (va_runSN (As := [.int r4]) (rest := []) X (ct_X8_sideOf l D g hT _ σ3 r4 _ h) ⟨va_cnB 1 X.2.2.2.2 gX5_goOff_X8_sideOf_n120 rfl rfl rfl (hK.2 _ (List.mem_of_getElem? (i := 11) rfl)) (X.2.2.2.2 _ (List.mem_of_getElem? (i := 10) rfl)) (by decide +kernel) ⟨Nat.le_of_ble_eq_true rfl, Nat.le_of_ble_eq_true rfl⟩, X.2.2.2.2 _ (List.mem_of_getElem? (i := 12) rfl), trivial⟩ (tw_pre hK w [.int r4]) rfl rfl hl.1 rfl (lv_room (Nat.le_of_ble_eq_true rfl)) dX5_goOff_40 ⟨Nat.zero_le _, Nat.zero_le _⟩) (fun r7 σ6 H locs h w => ?_)
          refine lv_iconst (v := 1) X.1 X.2.1 dX5_goOff_43 (by decide) ?_
          refine lv_icmp_ne (tgt := 53) X.1 X.2.1 dX5_goOff_44 (by decide) (fun c8 => ?_) (fun c8 => ?_)
          · have h := h.1 c8
            refine lv_aload_n X.1 X.2.1 dX5_goOff_53 rfl (lv_at hl 1 rfl) ?_
            refine lv_iload_n X.1 X.2.1 dX5_goOff_54 rfl (lv_at hl 2 rfl) ?_
            refine lv_iload X.1 X.2.1 dX5_goOff_55 (lv_at hl 0 rfl) ?_
            refine tw_ci w (va_runSN (As := [.int r4]) (rest := [.int x1, .ref a0]) X (ct_X8_stateOf l D g hT _ σ6 r4 _ h) ⟨va_cnB 1 X.2.2.2.2 gX5_goOff_X8_stateOf_n123 rfl rfl rfl (hK.2 _ (List.mem_of_getElem? (i := 12) rfl)) (X.2.2.2.2 _ (List.mem_of_getElem? (i := 10) rfl)) (by decide +kernel) ⟨Nat.le_of_ble_eq_true rfl, Nat.le_of_ble_eq_true rfl⟩, X.2.2.2.2 _ (List.mem_of_getElem? (i := 14) rfl), trivial⟩ (tw_pre hK w [.int r4]) rfl rfl hl.1 rfl (lv_room (Nat.le_of_ble_eq_true rfl)) dX5_goOff_57 ⟨Nat.zero_le _, Nat.zero_le _⟩) (fun r10 σ9 H locs h w => ?_)
            refine tw_ci w (va_runV (As := [.int x1, .int r10]) (rest := []) X (ct_X5_comesBack l D g hT _ σ9 a0 h0 x1 r10 _ h) (cwV 2 X.2.2.2.2 gX5_goOff_X5_comesBack rfl rfl rfl (by decide +kernel) ⟨Nat.le_of_ble_eq_true rfl, Nat.le_of_ble_eq_true rfl⟩) (tw_preV hK w h0 (by decide) rfl [.int x1, .int r10]) rfl rfl hl.1 rfl (lv_room (Nat.le_of_ble_eq_true rfl)) dX5_goOff_60 ⟨Nat.zero_le _, Nat.zero_le _⟩) (fun r12 σ11 H locs h w => ?_)
            refine lv_istore (lv' := [(4, .int r12), (6, .int r4), (0, .ref a0), (1, .int x1), (2, .int x2), (5, .int x5)]) X.1 X.2.1 dX5_goOff_63 hl (by decide) rfl (fun ls hl => ?_)
            have hl := lv_sub (l' := [(4, .int r12), (0, .ref a0), (1, .int x1), (2, .int x2), (5, .int x5)]) hl [0, 2, 3, 4, 5] rfl
            refine lv_iinc (v := (x5 + 1)) (lv' := [(5, .int (x5 + 1)), (4, .int r12), (0, .ref a0), (1, .int x1), (2, .int x2)]) X.1 X.2.1 dX5_goOff_65 hl (k := 4) rfl rfl (by decide) rfl (fun ls hl => ?_)
            refine lv_goto (tgt := 6) X.1 X.2.1 dX5_goOff_68 (by decide) ?_
            exact ih r12 (x5 + 1) σ11 _ _ ls h w (lv_sub hl [2, 3, 4, 1, 0] rfl)
          · have h := h.2 c8
            exact hk47 r4 σ6 _ _ ls h w (lv_sub hl [0] rfl)
        · have h := h.2 c5
          exact hk36  σ3 _ _ ls h w (lv_sub hl [] rfl)
set_option maxHeartbeats 4000000 in
set_option maxRecDepth 100000 in
theorem ct_X5_goOff (l : Launch) (D : va_G) (g : tw_G) (hT : tw_T g) (sz : Nat) (σ : tw_S) (a0 : Nat) (h0 : tw_is g 5 a0) (x1 : Int32) (x2 : Int32) (x3 : Int32) (Q : Int32 → tw_S → Prop) (h : wp_X5_goOff g σ a0 x1 x2 x3 Q) : tw_Mi l yX5_goOff wsX5_goOff RM_X5_goOff D g sz σ [.ref a0, .int x1, .int x2, .int x3] Q := by
  refine Met.ofW (cc := cX5_goOff) (maxL := 7) (ret := (some .int)) (by decide) rfl ?_
  intro p e s m args below meth c s₁ B hml hv
  obtain ⟨rfl, hsz, hP, hK, hD0⟩ := hv
  subst hsz
  have hr := B.returns
  have hlk := B.notSynchronized
  have X : CallFix p m c cX5_goOff 7 s _ wsX5_goOff RX5 := ⟨B.exec, B.bytes, hml, findClass_of_methodNamed B.named, atoms_spec (ws := wsX5_goOff) B.pre⟩
  have w := tw_w0 hP hD0
  have hl := lv_entry ([.ref a0, .int x1, .int x2, .int x3]) (n := 7) (Nat.le_of_ble_eq_true rfl)
  rw [lg_entry_eq]
  generalize (lg_sl ([.ref a0, .int x1, .int x2, .int x3]) ++ List.replicate (7 - (lg_sl ([.ref a0, .int x1, .int x2, .int x3])).length) Slot.unset).toArray = ls at hl ⊢
  have hl : lv_has ls 7 [(0, .ref a0), (1, .int x1), (2, .int x2), (3, .int x3)] := hl
  unfold wp_X5_goOff at h
  refine lv_iload_n X.1 X.2.1 dX5_goOff_0 rfl (lv_at hl 3 rfl) ?_
  refine lv_istore (lv' := [(4, .int x3), (0, .ref a0), (1, .int x1), (2, .int x2), (3, .int x3)]) X.1 X.2.1 dX5_goOff_1 hl (by decide) rfl (fun ls hl => ?_)
  have hl := lv_sub (l' := [(4, .int x3), (0, .ref a0), (1, .int x1), (2, .int x2)]) hl [0, 1, 2, 3] rfl
  refine lv_iconst (v := 0) X.1 X.2.1 dX5_goOff_3 (by decide) ?_
  refine lv_istore (lv' := [(5, .int (0 : Int32)), (4, .int x3), (0, .ref a0), (1, .int x1), (2, .int x2)]) X.1 X.2.1 dX5_goOff_4 hl (by decide) rfl (fun ls hl => ?_)
  obtain ⟨n6, h⟩ := h
  refine lp_X5_goOff_6 X hr hlk hK hT h0 (fun σ13 H locs ls h w hl => ?_) (fun v14 σ15 H locs ls h w hl => ?_) (fun σ18 H locs ls h w hl => ?_) n6 x3 (0 : Int32) σ _ _ ls h w (lv_sub hl [2, 3, 4, 1, 0] rfl)
  · skip
    refine lv_iconst (v := -1) X.1 X.2.1 dX5_goOff_36 (by decide) ?_
    exact tw_iret X hr hlk w h dX5_goOff_37
  · skip
    refine lv_iload X.1 X.2.1 dX5_goOff_47 (lv_at hl 0 rfl) ?_
    refine tw_ci w (va_runSN (As := [.int v14]) (rest := []) X (ct_X8_stateOf l D g hT _ σ15 v14 _ h) ⟨va_cnB 1 X.2.2.2.2 gX5_goOff_X8_stateOf_n123 rfl rfl rfl (hK.2 _ (List.mem_of_getElem? (i := 12) rfl)) (X.2.2.2.2 _ (List.mem_of_getElem? (i := 10) rfl)) (by decide +kernel) ⟨Nat.le_of_ble_eq_true rfl, Nat.le_of_ble_eq_true rfl⟩, X.2.2.2.2 _ (List.mem_of_getElem? (i := 14) rfl), trivial⟩ (tw_pre hK w [.int v14]) rfl rfl hl.1 rfl (lv_room (Nat.le_of_ble_eq_true rfl)) dX5_goOff_49 ⟨Nat.zero_le _, Nat.zero_le _⟩) (fun r17 σ16 H locs h w => ?_)
    exact tw_iret X hr hlk w h dX5_goOff_52
  · skip
    refine lv_iconst (v := -1) X.1 X.2.1 dX5_goOff_71 (by decide) ?_
    exact tw_iret X hr hlk w h dX5_goOff_72

abbrev RM_X5_findBehind : Room := { frames := 3, cells := 0, slots := 0, locals := 70 }
theorem iw_X5_findBehind_5 : ∀ w ∈ wsX50, w ∈ wsX5_findBehind := fun w h => List.mem_cons_of_mem _ (List.mem_append_left _ (List.mem_append_right _ (h)))
def wl_X5_findBehind_28 (g : tw_G) (a0 : Nat) (x1 : Int32) (x2 : Int32) (Q : tw_S → Prop) (k54 : tw_S → Prop) : Nat → Int32 → tw_S → Prop
  | 0, _, _ => False
  | n + 1, x3, σ => (((5 : Int32) ≤ x3) → k54  σ) ∧ (¬ ((5 : Int32) ≤ x3) → wp_X5_goOff g σ a0 x1 x2 (x3 - (1 : Int32)) (fun r9 σ8 => vp_in x3 5 ∧ ∀ σ11, σ11 = (tw_sA σ8 (tw_R g a0 2) (upd (tw_A σ8 (tw_R g a0 2)) x3.toNatClampNeg r9)) → wl_X5_findBehind_28 g a0 x1 x2 Q k54 n (x3 + 1) σ11))
def wp_X5_findBehind (g : tw_G) (σ : tw_S) (a0 : Nat) (x1 : Int32) (x2 : Int32) (Q : tw_S → Prop) : Prop := ((¬ x1 = (-1 : Int32)) → wp_X5_firstOff g σ a0 x1 (fun r3 σ2 => wp_X5_goOff g σ2 a0 x1 x2 r3 (fun r5 σ4 => ∀ σ6, σ6 = (tw_sA σ4 (tw_R g a0 2) (upd (tw_A σ4 (tw_R g a0 2)) (0 : Int32).toNatClampNeg r5)) → ∃ n28, wl_X5_findBehind_28 g a0 x1 x2 Q (fun σ12 => Q σ12) n28 (1 : Int32) σ6))) ∧ ((x1 = (-1 : Int32)) → wp_X5_goOff g σ a0 x1 x2 (0 : Int32) (fun r14 σ13 => ∀ σ15, σ15 = (tw_sA σ13 (tw_R g a0 2) (upd (tw_A σ13 (tw_R g a0 2)) (0 : Int32).toNatClampNeg r14)) → ∃ n28, wl_X5_findBehind_28 g a0 x1 x2 Q (fun σ16 => Q σ16) n28 (1 : Int32) σ15))
set_option maxHeartbeats 4000000 in
set_option maxRecDepth 100000 in
theorem lp_X5_findBehind_28 {p : Program} {l : Launch} {e : Env} {s : State} {m : MethodId} {args : Array Value} {below : List Frame} {meth : Method} {c : Code} {D : va_G} {g : tw_G} (X : CallFix p m c cX5_findBehind 4 s args wsX5_findBehind RX5) (hr : meth.sig.returnType = none) (hlk : meth.locks = false) (hK : tw_k D g s) (hT : tw_T g) {a0 : Nat} {x1 : Int32} {x2 : Int32} (h0 : tw_is g 5 a0) {Q : tw_S → Prop} {k54 : tw_S → Prop}
    (hk54 : ∀  (σ : tw_S) (H : Heap) (locs : List Loc) (ls : Array Slot), k54  σ → tw_w D g (tw_F g s.heap.size) s σ H locs → lv_has ls 4 [] → W p l e RM_X5_findBehind s m args below meth c H locs 0 0 (tw_Qv Q D g below args s) (F0 m 54 ls []))
    : ∀ (n : Nat) (x3 : Int32) (σ : tw_S) (H : Heap) (locs : List Loc) (ls : Array Slot), wl_X5_findBehind_28 g a0 x1 x2 Q k54 n x3 σ → tw_w D g (tw_F g s.heap.size) s σ H locs → lv_has ls 4 [(0, .ref a0), (1, .int x1), (2, .int x2), (3, .int x3)] → W p l e RM_X5_findBehind s m args below meth c H locs 0 0 (tw_Qv Q D g below args s) (F0 m 28 ls []) := by
  intro n
  induction n with
  | zero =>
    intro x3 σ H locs ls h w hl
    exact False.elim h
  | succ n ih =>
    intro x3 σ H locs ls h w hl
    rw [wl_X5_findBehind_28] at h
    refine lv_iload_n X.1 X.2.1 dX5_findBehind_28 rfl (lv_at hl 3 rfl) ?_
    refine lv_iconst (v := 5) X.1 X.2.1 dX5_findBehind_29 (by decide) ?_
    refine lv_icmp_ge (tgt := 54) X.1 X.2.1 dX5_findBehind_30 (by decide) (fun c7 => ?_) (fun c7 => ?_)
    · have h := h.1 c7
      exact hk54  σ _ _ ls h w (lv_sub hl [] rfl)
    · have h := h.2 c7
      refine lv_aload_n X.1 X.2.1 dX5_findBehind_33 rfl (lv_at hl 0 rfl) ?_
      refine tw_get X hK w 5 iw_X5_findBehind_5 h0 (by decide) rfl 2 (by decide) (List.mem_of_getElem? (i := 1) rfl) rfl dX5_findBehind_34 ?_
      refine lv_iload_n X.1 X.2.1 dX5_findBehind_37 rfl (lv_at hl 3 rfl) ?_
      refine lv_aload_n X.1 X.2.1 dX5_findBehind_38 rfl (lv_at hl 0 rfl) ?_
      refine lv_iload_n X.1 X.2.1 dX5_findBehind_39 rfl (lv_at hl 1 rfl) ?_
      refine lv_iload_n X.1 X.2.1 dX5_findBehind_40 rfl (lv_at hl 2 rfl) ?_
      refine lv_iload_n X.1 X.2.1 dX5_findBehind_41 rfl (lv_at hl 3 rfl) ?_
      refine lv_iconst (v := 1) X.1 X.2.1 dX5_findBehind_42 (by decide) ?_
      refine lv_isub X.1 X.2.1 dX5_findBehind_43 ?_
      refine tw_ci w (va_runV (As := [.int x1, .int x2, .int (x3 - (1 : Int32))]) (rest := [.int x3, .ref (tw_R g a0 2)]) X (ct_X5_goOff l D g hT _ σ a0 h0 x1 x2 (x3 - (1 : Int32)) _ h) (cwV 3 X.2.2.2.2 gX5_findBehind_X5_goOff rfl rfl rfl (by decide +kernel) ⟨Nat.le_of_ble_eq_true rfl, Nat.le_of_ble_eq_true rfl⟩) (tw_preV hK w h0 (by decide) rfl [.int x1, .int x2, .int (x3 - (1 : Int32))]) rfl rfl hl.1 rfl (lv_room (Nat.le_of_ble_eq_true rfl)) dX5_findBehind_44 ⟨Nat.zero_le _, Nat.zero_le _⟩) (fun r9 σ8 H locs h w => ?_)
      obtain ⟨hi10, h⟩ := h
      refine tw_iast X hK w (tw_t_5_2 hT h0) (tw_n_5_2 hT h0) hi10 dX5_findBehind_47 (fun σ11 H locs eσ11 w => ?_)
      have h := h _ eσ11
      refine lv_iinc (v := (x3 + 1)) (lv' := [(3, .int (x3 + 1)), (0, .ref a0), (1, .int x1), (2, .int x2)]) X.1 X.2.1 dX5_findBehind_48 hl (k := 3) rfl rfl (by decide) rfl (fun ls hl => ?_)
      refine lv_goto (tgt := 28) X.1 X.2.1 dX5_findBehind_51 (by decide) ?_
      exact ih (x3 + 1) σ11 _ _ ls h w (lv_sub hl [1, 2, 3, 0] rfl)
set_option maxHeartbeats 4000000 in
set_option maxRecDepth 100000 in
theorem ct_X5_findBehind (l : Launch) (D : va_G) (g : tw_G) (hT : tw_T g) (sz : Nat) (σ : tw_S) (a0 : Nat) (h0 : tw_is g 5 a0) (x1 : Int32) (x2 : Int32) (Q : tw_S → Prop) (h : wp_X5_findBehind g σ a0 x1 x2 Q) : tw_Mv l yX5_findBehind wsX5_findBehind RM_X5_findBehind D g sz σ [.ref a0, .int x1, .int x2] Q := by
  refine Met.ofW (cc := cX5_findBehind) (maxL := 4) (ret := none) (by decide) rfl ?_
  intro p e s m args below meth c s₁ B hml hv
  obtain ⟨rfl, hsz, hP, hK, hD0⟩ := hv
  subst hsz
  have hr := B.returns
  have hlk := B.notSynchronized
  have X : CallFix p m c cX5_findBehind 4 s _ wsX5_findBehind RX5 := ⟨B.exec, B.bytes, hml, findClass_of_methodNamed B.named, atoms_spec (ws := wsX5_findBehind) B.pre⟩
  have w := tw_w0 hP hD0
  have hl := lv_entry ([.ref a0, .int x1, .int x2]) (n := 4) (Nat.le_of_ble_eq_true rfl)
  rw [lg_entry_eq]
  generalize (lg_sl ([.ref a0, .int x1, .int x2]) ++ List.replicate (4 - (lg_sl ([.ref a0, .int x1, .int x2])).length) Slot.unset).toArray = ls at hl ⊢
  have hl : lv_has ls 4 [(0, .ref a0), (1, .int x1), (2, .int x2)] := hl
  unfold wp_X5_findBehind at h
  refine lv_aload_n X.1 X.2.1 dX5_findBehind_0 rfl (lv_at hl 0 rfl) ?_
  refine tw_get X hK w 5 iw_X5_findBehind_5 h0 (by decide) rfl 2 (by decide) (List.mem_of_getElem? (i := 1) rfl) rfl dX5_findBehind_1 ?_
  refine lv_iconst (v := 0) X.1 X.2.1 dX5_findBehind_4 (by decide) ?_
  refine lv_aload_n X.1 X.2.1 dX5_findBehind_5 rfl (lv_at hl 0 rfl) ?_
  refine lv_iload_n X.1 X.2.1 dX5_findBehind_6 rfl (lv_at hl 1 rfl) ?_
  refine lv_iload_n X.1 X.2.1 dX5_findBehind_7 rfl (lv_at hl 2 rfl) ?_
  refine lv_iload_n X.1 X.2.1 dX5_findBehind_8 rfl (lv_at hl 1 rfl) ?_
  refine lv_iconst (v := -1) X.1 X.2.1 dX5_findBehind_9 (by decide) ?_
  refine lv_icmp_ne (tgt := 17) X.1 X.2.1 dX5_findBehind_10 (by decide) (fun c1 => ?_) (fun c1 => ?_)
  · have h := h.1 c1
    refine lv_aload_n X.1 X.2.1 dX5_findBehind_17 rfl (lv_at hl 0 rfl) ?_
    refine lv_iload_n X.1 X.2.1 dX5_findBehind_18 rfl (lv_at hl 1 rfl) ?_
    refine tw_ci w (va_runV (As := [.int x1]) (rest := [.int x2, .int x1, .ref a0, .int (0 : Int32), .ref (tw_R g a0 2)]) X (ct_X5_firstOff l D g hT _ σ a0 h0 x1 _ h) (cwV 1 X.2.2.2.2 gX5_findBehind_X5_firstOff rfl rfl rfl (by decide +kernel) ⟨Nat.le_of_ble_eq_true rfl, Nat.le_of_ble_eq_true rfl⟩) (tw_preV hK w h0 (by decide) rfl [.int x1]) rfl rfl hl.1 rfl (lv_room (Nat.le_of_ble_eq_true rfl)) dX5_findBehind_19 ⟨Nat.zero_le _, Nat.zero_le _⟩) (fun r3 σ2 H locs h w => ?_)
    refine tw_ci w (va_runV (As := [.int x1, .int x2, .int r3]) (rest := [.int (0 : Int32), .ref (tw_R g a0 2)]) X (ct_X5_goOff l D g hT _ σ2 a0 h0 x1 x2 r3 _ h) (cwV 3 X.2.2.2.2 gX5_findBehind_X5_goOff rfl rfl rfl (by decide +kernel) ⟨Nat.le_of_ble_eq_true rfl, Nat.le_of_ble_eq_true rfl⟩) (tw_preV hK w h0 (by decide) rfl [.int x1, .int x2, .int r3]) rfl rfl hl.1 rfl (lv_room (Nat.le_of_ble_eq_true rfl)) dX5_findBehind_22 ⟨Nat.zero_le _, Nat.zero_le _⟩) (fun r5 σ4 H locs h w => ?_)
    refine tw_iast X hK w (tw_t_5_2 hT h0) (tw_n_5_2 hT h0) (by unfold vp_in; decide) dX5_findBehind_25 (fun σ6 H locs eσ6 w => ?_)
    have h := h _ eσ6
    refine lv_iconst (v := 1) X.1 X.2.1 dX5_findBehind_26 (by decide) ?_
    refine lv_istore_n (lv' := [(3, .int (1 : Int32)), (0, .ref a0), (1, .int x1), (2, .int x2)]) X.1 X.2.1 dX5_findBehind_27 rfl hl (by decide) rfl (fun ls hl => ?_)
    obtain ⟨n28, h⟩ := h
    refine lp_X5_findBehind_28 X hr hlk hK hT h0 (fun σ12 H locs ls h w hl => ?_) n28 (1 : Int32) σ6 _ _ ls h w (lv_sub hl [1, 2, 3, 0] rfl)
    · skip
      exact tw_vret X hr hlk w h dX5_findBehind_54
  · have h := h.2 c1
    refine lv_iconst (v := 0) X.1 X.2.1 dX5_findBehind_13 (by decide) ?_
    refine lv_goto (tgt := 22) X.1 X.2.1 dX5_findBehind_14 (by decide) ?_
    refine tw_ci w (va_runV (As := [.int x1, .int x2, .int (0 : Int32)]) (rest := [.int (0 : Int32), .ref (tw_R g a0 2)]) X (ct_X5_goOff l D g hT _ σ a0 h0 x1 x2 (0 : Int32) _ h) (cwV 3 X.2.2.2.2 gX5_findBehind_X5_goOff rfl rfl rfl (by decide +kernel) ⟨Nat.le_of_ble_eq_true rfl, Nat.le_of_ble_eq_true rfl⟩) (tw_preV hK w h0 (by decide) rfl [.int x1, .int x2, .int (0 : Int32)]) rfl rfl hl.1 rfl (lv_room (Nat.le_of_ble_eq_true rfl)) dX5_findBehind_22 ⟨Nat.zero_le _, Nat.zero_le _⟩) (fun r14 σ13 H locs h w => ?_)
    refine tw_iast X hK w (tw_t_5_2 hT h0) (tw_n_5_2 hT h0) (by unfold vp_in; decide) dX5_findBehind_25 (fun σ15 H locs eσ15 w => ?_)
    have h := h _ eσ15
    refine lv_iconst (v := 1) X.1 X.2.1 dX5_findBehind_26 (by decide) ?_
    refine lv_istore_n (lv' := [(3, .int (1 : Int32)), (0, .ref a0), (1, .int x1), (2, .int x2)]) X.1 X.2.1 dX5_findBehind_27 rfl hl (by decide) rfl (fun ls hl => ?_)
    obtain ⟨n28, h⟩ := h
    refine lp_X5_findBehind_28 X hr hlk hK hT h0 (fun σ16 H locs ls h w hl => ?_) n28 (1 : Int32) σ15 _ _ ls h w (lv_sub hl [1, 2, 3, 0] rfl)
    · skip
      exact tw_vret X hr hlk w h dX5_findBehind_54

abbrev RM_X5_codeOfFound : Room := { frames := 0, cells := 0, slots := 0, locals := 0 }
theorem iw_X5_codeOfFound_5 : ∀ w ∈ wsX50, w ∈ wsX5_codeOfFound := fun w h => List.mem_cons_of_mem _ (List.mem_append_right _ (h))
def wl_X5_codeOfFound_4 (g : tw_G) (a0 : Nat) (Q : Int32 → tw_S → Prop) (k28 : Int32 → tw_S → Prop) : Nat → Int32 → Int32 → tw_S → Prop
  | 0, _, _, _ => False
  | n + 1, x1, x2, σ => (((5 : Int32) ≤ x2) → k28 x1 σ) ∧ (¬ ((5 : Int32) ≤ x2) → vp_in x2 5 ∧ ∀ z3, z3 = ((((5 : Int32) * x1) + (tw_A σ (tw_R g a0 2) x2.toNatClampNeg)) + (1 : Int32)) → wl_X5_codeOfFound_4 g a0 Q k28 n z3 (x2 + 1) σ)
def wp_X5_codeOfFound (g : tw_G) (σ : tw_S) (a0 : Nat) (Q : Int32 → tw_S → Prop) : Prop := ∃ n4, wl_X5_codeOfFound_4 g a0 Q (fun v4 σ5 => Q v4 σ5) n4 (0 : Int32) (0 : Int32) σ
set_option maxHeartbeats 4000000 in
set_option maxRecDepth 100000 in
theorem lp_X5_codeOfFound_4 {p : Program} {l : Launch} {e : Env} {s : State} {m : MethodId} {args : Array Value} {below : List Frame} {meth : Method} {c : Code} {D : va_G} {g : tw_G} (X : CallFix p m c cX5_codeOfFound 3 s args wsX5_codeOfFound RX5) (hr : meth.sig.returnType = (some .int)) (hlk : meth.locks = false) (hK : tw_k D g s) (hT : tw_T g) {a0 : Nat} (h0 : tw_is g 5 a0) {Q : Int32 → tw_S → Prop} {k28 : Int32 → tw_S → Prop}
    (hk28 : ∀ (x1 : Int32) (σ : tw_S) (H : Heap) (locs : List Loc) (ls : Array Slot), k28 x1 σ → tw_w D g (tw_F g s.heap.size) s σ H locs → lv_has ls 3 [(1, .int x1)] → W p l e RM_X5_codeOfFound s m args below meth c H locs 0 0 (tw_Qi Q D g below args s) (F0 m 28 ls []))
    : ∀ (n : Nat) (x1 : Int32) (x2 : Int32) (σ : tw_S) (H : Heap) (locs : List Loc) (ls : Array Slot), wl_X5_codeOfFound_4 g a0 Q k28 n x1 x2 σ → tw_w D g (tw_F g s.heap.size) s σ H locs → lv_has ls 3 [(0, .ref a0), (1, .int x1), (2, .int x2)] → W p l e RM_X5_codeOfFound s m args below meth c H locs 0 0 (tw_Qi Q D g below args s) (F0 m 4 ls []) := by
  intro n
  induction n with
  | zero =>
    intro x1 x2 σ H locs ls h w hl
    exact False.elim h
  | succ n ih =>
    intro x1 x2 σ H locs ls h w hl
    rw [wl_X5_codeOfFound_4] at h
    refine lv_iload_n X.1 X.2.1 dX5_codeOfFound_4 rfl (lv_at hl 2 rfl) ?_
    refine lv_iconst (v := 5) X.1 X.2.1 dX5_codeOfFound_5 (by decide) ?_
    refine lv_icmp_ge (tgt := 28) X.1 X.2.1 dX5_codeOfFound_6 (by decide) (fun c1 => ?_) (fun c1 => ?_)
    · have h := h.1 c1
      exact hk28 x1 σ _ _ ls h w (lv_sub hl [1] rfl)
    · have h := h.2 c1
      refine lv_iconst (v := 5) X.1 X.2.1 dX5_codeOfFound_9 (by decide) ?_
      refine lv_iload_n X.1 X.2.1 dX5_codeOfFound_10 rfl (lv_at hl 1 rfl) ?_
      refine lv_imul X.1 X.2.1 dX5_codeOfFound_11 ?_
      refine lv_aload_n X.1 X.2.1 dX5_codeOfFound_12 rfl (lv_at hl 0 rfl) ?_
      refine tw_get X hK w 5 iw_X5_codeOfFound_5 h0 (by decide) rfl 2 (by decide) (List.mem_of_getElem? (i := 1) rfl) rfl dX5_codeOfFound_13 ?_
      refine lv_iload_n X.1 X.2.1 dX5_codeOfFound_16 rfl (lv_at hl 2 rfl) ?_
      obtain ⟨hi2, h⟩ := h
      refine tw_iald X hK w (tw_t_5_2 hT h0) (tw_n_5_2 hT h0) hi2 dX5_codeOfFound_17 ?_
      refine lv_iadd X.1 X.2.1 dX5_codeOfFound_18 ?_
      refine lv_iconst (v := 1) X.1 X.2.1 dX5_codeOfFound_19 (by decide) ?_
      refine lv_iadd X.1 X.2.1 dX5_codeOfFound_20 ?_
      refine lv_topi (fun z3 ez3 => ?_)
      have h := h _ ez3
      refine lv_istore_n (lv' := [(1, .int z3), (0, .ref a0), (2, .int x2)]) X.1 X.2.1 dX5_codeOfFound_21 rfl hl (by decide) rfl (fun ls hl => ?_)
      refine lv_iinc (v := (x2 + 1)) (lv' := [(2, .int (x2 + 1)), (1, .int z3), (0, .ref a0)]) X.1 X.2.1 dX5_codeOfFound_22 hl (k := 2) rfl rfl (by decide) rfl (fun ls hl => ?_)
      refine lv_goto (tgt := 4) X.1 X.2.1 dX5_codeOfFound_25 (by decide) ?_
      exact ih z3 (x2 + 1) σ _ _ ls h w (lv_sub hl [2, 1, 0] rfl)
set_option maxHeartbeats 4000000 in
set_option maxRecDepth 100000 in
theorem ct_X5_codeOfFound (l : Launch) (D : va_G) (g : tw_G) (hT : tw_T g) (sz : Nat) (σ : tw_S) (a0 : Nat) (h0 : tw_is g 5 a0) (Q : Int32 → tw_S → Prop) (h : wp_X5_codeOfFound g σ a0 Q) : tw_Mi l yX5_codeOfFound wsX5_codeOfFound RM_X5_codeOfFound D g sz σ [.ref a0] Q := by
  refine Met.ofW (cc := cX5_codeOfFound) (maxL := 3) (ret := (some .int)) (by decide) rfl ?_
  intro p e s m args below meth c s₁ B hml hv
  obtain ⟨rfl, hsz, hP, hK, hD0⟩ := hv
  subst hsz
  have hr := B.returns
  have hlk := B.notSynchronized
  have X : CallFix p m c cX5_codeOfFound 3 s _ wsX5_codeOfFound RX5 := ⟨B.exec, B.bytes, hml, findClass_of_methodNamed B.named, atoms_spec (ws := wsX5_codeOfFound) B.pre⟩
  have w := tw_w0 hP hD0
  have hl := lv_entry ([.ref a0]) (n := 3) (Nat.le_of_ble_eq_true rfl)
  rw [lg_entry_eq]
  generalize (lg_sl ([.ref a0]) ++ List.replicate (3 - (lg_sl ([.ref a0])).length) Slot.unset).toArray = ls at hl ⊢
  have hl : lv_has ls 3 [(0, .ref a0)] := hl
  unfold wp_X5_codeOfFound at h
  refine lv_iconst (v := 0) X.1 X.2.1 dX5_codeOfFound_0 (by decide) ?_
  refine lv_istore_n (lv' := [(1, .int (0 : Int32)), (0, .ref a0)]) X.1 X.2.1 dX5_codeOfFound_1 rfl hl (by decide) rfl (fun ls hl => ?_)
  refine lv_iconst (v := 0) X.1 X.2.1 dX5_codeOfFound_2 (by decide) ?_
  refine lv_istore_n (lv' := [(2, .int (0 : Int32)), (1, .int (0 : Int32)), (0, .ref a0)]) X.1 X.2.1 dX5_codeOfFound_3 rfl hl (by decide) rfl (fun ls hl => ?_)
  obtain ⟨n4, h⟩ := h
  refine lp_X5_codeOfFound_4 X hr hlk hK hT h0 (fun v4 σ5 H locs ls h w hl => ?_) n4 (0 : Int32) (0 : Int32) σ _ _ ls h w (lv_sub hl [2, 1, 0] rfl)
  · skip
    refine lv_iload_n X.1 X.2.1 dX5_codeOfFound_28 rfl (lv_at hl 0 rfl) ?_
    exact tw_iret X hr hlk w h dX5_codeOfFound_29

abbrev RM_X5_addFound : Room := { frames := 1, cells := 0, slots := 0, locals := 26 }
theorem iw_X5_addFound_5 : ∀ w ∈ wsX50, w ∈ wsX5_addFound := fun w h => List.mem_cons_of_mem _ (List.mem_append_right _ (h))
def wp_X5_addFound (g : tw_G) (σ : tw_S) (a0 : Nat) (x1 : Int32) (Q : tw_S → Prop) : Prop := ∀ σ1, σ1 = (tw_sI σ a0 14 ((tw_I σ a0 14) + (1 : Int32))) → wp_X5_hasState g σ1 a0 (tw_I σ a0 14) (fun r3 σ2 => ((r3 = 0) → Q σ2) ∧ (¬ (r3 = 0) → ¬ ((5 : Int32) * (tw_I σ a0 14)) < 0 ∧ ((5 : Int32) * (tw_I σ a0 14)).toNatClampNeg + (5 : Int32).toNatClampNeg ≤ 750 ∧ ∀ σ7, σ7 = (tw_sA σ2 (tw_R g a0 1) (va_cpy (tw_A σ2 (tw_R g a0 2)) (tw_A σ2 (tw_R g a0 1)) (0 : Int32).toNatClampNeg ((5 : Int32) * (tw_I σ a0 14)).toNatClampNeg (5 : Int32).toNatClampNeg)) → vp_in (tw_I σ a0 14) 150 ∧ ∀ σ9, σ9 = (tw_sA σ7 (tw_R g a0 6) (upd (tw_A σ7 (tw_R g a0 6)) (tw_I σ a0 14).toNatClampNeg x1)) → Q σ9))
set_option maxHeartbeats 4000000 in
set_option maxRecDepth 100000 in
theorem ct_X5_addFound (l : Launch) (D : va_G) (g : tw_G) (hT : tw_T g) (sz : Nat) (σ : tw_S) (a0 : Nat) (h0 : tw_is g 5 a0) (x1 : Int32) (Q : tw_S → Prop) (h : wp_X5_addFound g σ a0 x1 Q) : tw_Mv l yX5_addFound wsX5_addFound RM_X5_addFound D g sz σ [.ref a0, .int x1] Q := by
  refine Met.ofW (cc := cX5_addFound) (maxL := 3) (ret := none) (by decide) rfl ?_
  intro p e s m args below meth c s₁ B hml hv
  obtain ⟨rfl, hsz, hP, hK, hD0⟩ := hv
  subst hsz
  have hr := B.returns
  have hlk := B.notSynchronized
  have X : CallFix p m c cX5_addFound 3 s _ wsX5_addFound RX5 := ⟨B.exec, B.bytes, hml, findClass_of_methodNamed B.named, atoms_spec (ws := wsX5_addFound) B.pre⟩
  have w := tw_w0 hP hD0
  have hl := lv_entry ([.ref a0, .int x1]) (n := 3) (Nat.le_of_ble_eq_true rfl)
  rw [lg_entry_eq]
  generalize (lg_sl ([.ref a0, .int x1]) ++ List.replicate (3 - (lg_sl ([.ref a0, .int x1])).length) Slot.unset).toArray = ls at hl ⊢
  have hl : lv_has ls 3 [(0, .ref a0), (1, .int x1)] := hl
  unfold wp_X5_addFound at h
  refine lv_aload_n X.1 X.2.1 dX5_addFound_0 rfl (lv_at hl 0 rfl) ?_
  refine tw_get X hK w 5 iw_X5_addFound_5 h0 (by decide) rfl 14 (by decide) (List.mem_of_getElem? (i := 1) rfl) rfl dX5_addFound_1 ?_
  refine lv_istore_n (lv' := [(2, .int (tw_I σ a0 14)), (0, .ref a0), (1, .int x1)]) X.1 X.2.1 dX5_addFound_4 rfl hl (by decide) rfl (fun ls hl => ?_)
  refine lv_aload_n X.1 X.2.1 dX5_addFound_5 rfl (lv_at hl 1 rfl) ?_
  refine lv_dup X.1 X.2.1 dX5_addFound_6 rfl ?_
  refine tw_get X hK w 5 iw_X5_addFound_5 h0 (by decide) rfl 14 (by decide) (List.mem_of_getElem? (i := 1) rfl) rfl dX5_addFound_7 ?_
  refine lv_iconst (v := 1) X.1 X.2.1 dX5_addFound_10 (by decide) ?_
  refine lv_iadd X.1 X.2.1 dX5_addFound_11 ?_
  refine tw_putI X hK w 5 iw_X5_addFound_5 tyX5 tyX5_ok nmX5 h0 (by decide) rfl 14 (by decide) (List.mem_of_getElem? (i := 1) rfl) rfl (ty := .int) (by decide +kernel) rfl rfl (Nat.le_of_ble_eq_true rfl) (tw_f_5_14 g _ _ _) dX5_addFound_12 (fun σ1 H locs eσ1 w => ?_)
  have h := h _ eσ1
  refine lv_aload_n X.1 X.2.1 dX5_addFound_15 rfl (lv_at hl 1 rfl) ?_
  refine lv_iload_n X.1 X.2.1 dX5_addFound_16 rfl (lv_at hl 0 rfl) ?_
  refine tw_ci w (va_runV (As := [.int (tw_I σ a0 14)]) (rest := []) X (ct_X5_hasState l D g hT _ σ1 a0 h0 (tw_I σ a0 14) _ h) (cwV 1 X.2.2.2.2 gX5_addFound_X5_hasState rfl rfl rfl (by decide +kernel) ⟨Nat.le_of_ble_eq_true rfl, Nat.le_of_ble_eq_true rfl⟩) (tw_preV hK w h0 (by decide) rfl [.int (tw_I σ a0 14)]) rfl rfl hl.1 rfl (lv_room (Nat.le_of_ble_eq_true rfl)) dX5_addFound_17 ⟨Nat.zero_le _, Nat.zero_le _⟩) (fun r3 σ2 H locs h w => ?_)
  refine lv_if_eq (tgt := 46) X.1 X.2.1 dX5_addFound_20 (by decide) (fun c4 => ?_) (fun c4 => ?_)
  · have h := h.1 c4
    exact tw_vret X hr hlk w h dX5_addFound_46
  · have h := h.2 c4
    refine lv_aload_n X.1 X.2.1 dX5_addFound_23 rfl (lv_at hl 1 rfl) ?_
    refine tw_get X hK w 5 iw_X5_addFound_5 h0 (by decide) rfl 2 (by decide) (List.mem_of_getElem? (i := 2) rfl) rfl dX5_addFound_24 ?_
    refine lv_iconst (v := 0) X.1 X.2.1 dX5_addFound_27 (by decide) ?_
    refine lv_aload_n X.1 X.2.1 dX5_addFound_28 rfl (lv_at hl 1 rfl) ?_
    refine tw_get X hK w 5 iw_X5_addFound_5 h0 (by decide) rfl 1 (by decide) (List.mem_of_getElem? (i := 3) rfl) rfl dX5_addFound_29 ?_
    refine lv_iconst (v := 5) X.1 X.2.1 dX5_addFound_32 (by decide) ?_
    refine lv_iload_n X.1 X.2.1 dX5_addFound_33 rfl (lv_at hl 0 rfl) ?_
    refine lv_imul X.1 X.2.1 dX5_addFound_34 ?_
    refine lv_iconst (v := 5) X.1 X.2.1 dX5_addFound_35 (by decide) ?_
    obtain ⟨hi5, h⟩ := h
    obtain ⟨hi6, h⟩ := h
    refine tw_copy X hK w hl.1 (List.mem_of_getElem? (i := 4) rfl) (List.mem_of_getElem? (i := 5) rfl) (List.mem_of_getElem? (i := 6) rfl) (List.mem_of_getElem? (i := 7) rfl) (tw_t_5_2 hT h0) (tw_n_5_2 hT h0) (tw_t_5_1 hT h0) (tw_n_5_1 hT h0) (by decide) hi5 (by decide) (by decide) hi6 (Nat.le_of_ble_eq_true rfl) (Nat.le_of_ble_eq_true rfl) dX5_addFound_36 (fun σ7 H locs eσ7 w => ?_)
    have h := h _ eσ7
    refine lv_aload_n X.1 X.2.1 dX5_addFound_39 rfl (lv_at hl 1 rfl) ?_
    refine tw_get X hK w 5 iw_X5_addFound_5 h0 (by decide) rfl 6 (by decide) (List.mem_of_getElem? (i := 8) rfl) rfl dX5_addFound_40 ?_
    refine lv_iload_n X.1 X.2.1 dX5_addFound_43 rfl (lv_at hl 0 rfl) ?_
    refine lv_iload_n X.1 X.2.1 dX5_addFound_44 rfl (lv_at hl 2 rfl) ?_
    obtain ⟨hi8, h⟩ := h
    refine tw_iast X hK w (tw_t_5_6 hT h0) (tw_n_5_6 hT h0) hi8 dX5_addFound_45 (fun σ9 H locs eσ9 w => ?_)
    have h := h _ eσ9
    exact tw_vret X hr hlk w h dX5_addFound_46

abbrev RM_X5_numberOfFound : Room := { frames := 2, cells := 0, slots := 0, locals := 48 }
theorem iw_X5_numberOfFound_5 : ∀ w ∈ wsX50, w ∈ wsX5_numberOfFound := fun w h => List.mem_cons_of_mem _ (List.mem_append_right _ (h))
def wp_X5_numberOfFound (g : tw_G) (σ : tw_S) (a0 : Nat) (x1 : Int32) (Q : Int32 → tw_S → Prop) : Prop := wp_X5_codeOfFound g σ a0 (fun r2 σ1 => ((r2 < 0) → Q (-1 : Int32) σ1) ∧ (¬ (r2 < 0) → ((r2 < (3125 : Int32)) → vp_in r2 3125 ∧ ((¬ (tw_A σ1 (tw_R g a0 3) r2.toNatClampNeg) = (-1 : Int32)) → vp_in r2 3125 ∧ Q (tw_A σ1 (tw_R g a0 3) r2.toNatClampNeg) σ1) ∧ (((tw_A σ1 (tw_R g a0 3) r2.toNatClampNeg) = (-1 : Int32)) → (((tw_I σ1 a0 14) < 0) → ∀ σ9, σ9 = (tw_sI σ1 a0 13 (1 : Int32)) → Q (-1 : Int32) σ9) ∧ (¬ ((tw_I σ1 a0 14) < 0) → (((tw_I σ1 a0 14) < (150 : Int32)) → vp_in r2 3125 ∧ ∀ σ12, σ12 = (tw_sA σ1 (tw_R g a0 3) (upd (tw_A σ1 (tw_R g a0 3)) r2.toNatClampNeg (tw_I σ1 a0 14))) → wp_X5_addFound g σ12 a0 x1 (fun σ13 => vp_in r2 3125 ∧ Q (tw_A σ13 (tw_R g a0 3) r2.toNatClampNeg) σ13)) ∧ (¬ ((tw_I σ1 a0 14) < (150 : Int32)) → ∀ σ15, σ15 = (tw_sI σ1 a0 13 (1 : Int32)) → Q (-1 : Int32) σ15)))) ∧ (¬ (r2 < (3125 : Int32)) → Q (-1 : Int32) σ1)))
set_option maxHeartbeats 4000000 in
set_option maxRecDepth 100000 in
theorem ct_X5_numberOfFound (l : Launch) (D : va_G) (g : tw_G) (hT : tw_T g) (sz : Nat) (σ : tw_S) (a0 : Nat) (h0 : tw_is g 5 a0) (x1 : Int32) (Q : Int32 → tw_S → Prop) (h : wp_X5_numberOfFound g σ a0 x1 Q) : tw_Mi l yX5_numberOfFound wsX5_numberOfFound RM_X5_numberOfFound D g sz σ [.ref a0, .int x1] Q := by
  refine Met.ofW (cc := cX5_numberOfFound) (maxL := 3) (ret := (some .int)) (by decide) rfl ?_
  intro p e s m args below meth c s₁ B hml hv
  obtain ⟨rfl, hsz, hP, hK, hD0⟩ := hv
  subst hsz
  have hr := B.returns
  have hlk := B.notSynchronized
  have X : CallFix p m c cX5_numberOfFound 3 s _ wsX5_numberOfFound RX5 := ⟨B.exec, B.bytes, hml, findClass_of_methodNamed B.named, atoms_spec (ws := wsX5_numberOfFound) B.pre⟩
  have w := tw_w0 hP hD0
  have hl := lv_entry ([.ref a0, .int x1]) (n := 3) (Nat.le_of_ble_eq_true rfl)
  rw [lg_entry_eq]
  generalize (lg_sl ([.ref a0, .int x1]) ++ List.replicate (3 - (lg_sl ([.ref a0, .int x1])).length) Slot.unset).toArray = ls at hl ⊢
  have hl : lv_has ls 3 [(0, .ref a0), (1, .int x1)] := hl
  unfold wp_X5_numberOfFound at h
  refine lv_aload_n X.1 X.2.1 dX5_numberOfFound_0 rfl (lv_at hl 0 rfl) ?_
  refine tw_ci w (va_runV (As := []) (rest := []) X (ct_X5_codeOfFound l D g hT _ σ a0 h0 _ h) (cwV 0 X.2.2.2.2 gX5_numberOfFound_X5_codeOfFound rfl rfl rfl (by decide +kernel) ⟨Nat.le_of_ble_eq_true rfl, Nat.le_of_ble_eq_true rfl⟩) (tw_preV hK w h0 (by decide) rfl []) rfl rfl hl.1 rfl (lv_room (Nat.le_of_ble_eq_true rfl)) dX5_numberOfFound_1 ⟨Nat.zero_le _, Nat.zero_le _⟩) (fun r2 σ1 H locs h w => ?_)
  refine lv_istore_n (lv' := [(2, .int r2), (0, .ref a0), (1, .int x1)]) X.1 X.2.1 dX5_numberOfFound_4 rfl hl (by decide) rfl (fun ls hl => ?_)
  refine lv_iload_n X.1 X.2.1 dX5_numberOfFound_5 rfl (lv_at hl 0 rfl) ?_
  refine lv_if_lt (tgt := 16) X.1 X.2.1 dX5_numberOfFound_6 (by decide) (fun c3 => ?_) (fun c3 => ?_)
  · have h := h.1 c3
    refine lv_iconst (v := -1) X.1 X.2.1 dX5_numberOfFound_16 (by decide) ?_
    exact tw_iret X hr hlk w h dX5_numberOfFound_17
  · have h := h.2 c3
    refine lv_iload_n X.1 X.2.1 dX5_numberOfFound_9 rfl (lv_at hl 0 rfl) ?_
    refine lv_sipush (v := 3125) X.1 X.2.1 dX5_numberOfFound_10 (by decide) ?_
    refine lv_icmp_lt (tgt := 18) X.1 X.2.1 dX5_numberOfFound_13 (by decide) (fun c4 => ?_) (fun c4 => ?_)
    · have h := h.1 c4
      refine lv_aload_n X.1 X.2.1 dX5_numberOfFound_18 rfl (lv_at hl 1 rfl) ?_
      refine tw_get X hK w 5 iw_X5_numberOfFound_5 h0 (by decide) rfl 3 (by decide) (List.mem_of_getElem? (i := 1) rfl) rfl dX5_numberOfFound_19 ?_
      refine lv_iload_n X.1 X.2.1 dX5_numberOfFound_22 rfl (lv_at hl 0 rfl) ?_
      obtain ⟨hi5, h⟩ := h
      refine tw_iald X hK w (tw_t_5_3 hT h0) (tw_n_5_3 hT h0) hi5 dX5_numberOfFound_23 ?_
      refine lv_iconst (v := -1) X.1 X.2.1 dX5_numberOfFound_24 (by decide) ?_
      refine lv_icmp_ne (tgt := 67) X.1 X.2.1 dX5_numberOfFound_25 (by decide) (fun c6 => ?_) (fun c6 => ?_)
      · have h := h.1 c6
        refine lv_aload_n X.1 X.2.1 dX5_numberOfFound_67 rfl (lv_at hl 1 rfl) ?_
        refine tw_get X hK w 5 iw_X5_numberOfFound_5 h0 (by decide) rfl 3 (by decide) (List.mem_of_getElem? (i := 1) rfl) rfl dX5_numberOfFound_68 ?_
        refine lv_iload_n X.1 X.2.1 dX5_numberOfFound_71 rfl (lv_at hl 0 rfl) ?_
        obtain ⟨hi7, h⟩ := h
        refine tw_iald X hK w (tw_t_5_3 hT h0) (tw_n_5_3 hT h0) hi7 dX5_numberOfFound_72 ?_
        exact tw_iret X hr hlk w h dX5_numberOfFound_73
      · have h := h.2 c6
        refine lv_aload_n X.1 X.2.1 dX5_numberOfFound_28 rfl (lv_at hl 1 rfl) ?_
        refine tw_get X hK w 5 iw_X5_numberOfFound_5 h0 (by decide) rfl 14 (by decide) (List.mem_of_getElem? (i := 2) rfl) rfl dX5_numberOfFound_29 ?_
        refine lv_if_lt (tgt := 45) X.1 X.2.1 dX5_numberOfFound_32 (by decide) (fun c8 => ?_) (fun c8 => ?_)
        · have h := h.1 c8
          refine lv_aload_n X.1 X.2.1 dX5_numberOfFound_45 rfl (lv_at hl 1 rfl) ?_
          refine lv_iconst (v := 1) X.1 X.2.1 dX5_numberOfFound_46 (by decide) ?_
          refine tw_putI X hK w 5 iw_X5_numberOfFound_5 tyX5 tyX5_ok nmX5 h0 (by decide) rfl 13 (by decide) (List.mem_of_getElem? (i := 3) rfl) rfl (ty := .boolean) (by decide +kernel) (by decide) (by decide) (Nat.le_of_ble_eq_true rfl) (tw_f_5_13 g _ _ _) dX5_numberOfFound_47 (fun σ9 H locs eσ9 w => ?_)
          have h := h _ eσ9
          refine lv_iconst (v := -1) X.1 X.2.1 dX5_numberOfFound_50 (by decide) ?_
          exact tw_iret X hr hlk w h dX5_numberOfFound_51
        · have h := h.2 c8
          refine lv_aload_n X.1 X.2.1 dX5_numberOfFound_35 rfl (lv_at hl 1 rfl) ?_
          refine tw_get X hK w 5 iw_X5_numberOfFound_5 h0 (by decide) rfl 14 (by decide) (List.mem_of_getElem? (i := 2) rfl) rfl dX5_numberOfFound_36 ?_
          refine lv_sipush (v := 150) X.1 X.2.1 dX5_numberOfFound_39 (by decide) ?_
          refine lv_icmp_lt (tgt := 52) X.1 X.2.1 dX5_numberOfFound_42 (by decide) (fun c10 => ?_) (fun c10 => ?_)
          · have h := h.1 c10
            refine lv_aload_n X.1 X.2.1 dX5_numberOfFound_52 rfl (lv_at hl 1 rfl) ?_
            refine tw_get X hK w 5 iw_X5_numberOfFound_5 h0 (by decide) rfl 3 (by decide) (List.mem_of_getElem? (i := 1) rfl) rfl dX5_numberOfFound_53 ?_
            refine lv_iload_n X.1 X.2.1 dX5_numberOfFound_56 rfl (lv_at hl 0 rfl) ?_
            refine lv_aload_n X.1 X.2.1 dX5_numberOfFound_57 rfl (lv_at hl 1 rfl) ?_
            refine tw_get X hK w 5 iw_X5_numberOfFound_5 h0 (by decide) rfl 14 (by decide) (List.mem_of_getElem? (i := 2) rfl) rfl dX5_numberOfFound_58 ?_
            obtain ⟨hi11, h⟩ := h
            refine tw_iast X hK w (tw_t_5_3 hT h0) (tw_n_5_3 hT h0) hi11 dX5_numberOfFound_61 (fun σ12 H locs eσ12 w => ?_)
            have h := h _ eσ12
            refine lv_aload_n X.1 X.2.1 dX5_numberOfFound_62 rfl (lv_at hl 1 rfl) ?_
            refine lv_iload_n X.1 X.2.1 dX5_numberOfFound_63 rfl (lv_at hl 2 rfl) ?_
            refine tw_cv w (va_runV (As := [.int x1]) (rest := []) X (ct_X5_addFound l D g hT _ σ12 a0 h0 x1 _ h) (cwV 1 X.2.2.2.2 gX5_numberOfFound_X5_addFound rfl rfl rfl (by decide +kernel) ⟨Nat.le_of_ble_eq_true rfl, Nat.le_of_ble_eq_true rfl⟩) (tw_preV hK w h0 (by decide) rfl [.int x1]) rfl rfl hl.1 rfl (lv_room (Nat.le_of_ble_eq_true rfl)) dX5_numberOfFound_64 ⟨Nat.zero_le _, Nat.zero_le _⟩) (fun σ13 H locs h w => ?_)
            refine lv_aload_n X.1 X.2.1 dX5_numberOfFound_67 rfl (lv_at hl 1 rfl) ?_
            refine tw_get X hK w 5 iw_X5_numberOfFound_5 h0 (by decide) rfl 3 (by decide) (List.mem_of_getElem? (i := 1) rfl) rfl dX5_numberOfFound_68 ?_
            refine lv_iload_n X.1 X.2.1 dX5_numberOfFound_71 rfl (lv_at hl 0 rfl) ?_
            obtain ⟨hi14, h⟩ := h
            refine tw_iald X hK w (tw_t_5_3 hT h0) (tw_n_5_3 hT h0) hi14 dX5_numberOfFound_72 ?_
            exact tw_iret X hr hlk w h dX5_numberOfFound_73
          · have h := h.2 c10
            refine lv_aload_n X.1 X.2.1 dX5_numberOfFound_45 rfl (lv_at hl 1 rfl) ?_
            refine lv_iconst (v := 1) X.1 X.2.1 dX5_numberOfFound_46 (by decide) ?_
            refine tw_putI X hK w 5 iw_X5_numberOfFound_5 tyX5 tyX5_ok nmX5 h0 (by decide) rfl 13 (by decide) (List.mem_of_getElem? (i := 3) rfl) rfl (ty := .boolean) (by decide +kernel) (by decide) (by decide) (Nat.le_of_ble_eq_true rfl) (tw_f_5_13 g _ _ _) dX5_numberOfFound_47 (fun σ15 H locs eσ15 w => ?_)
            have h := h _ eσ15
            refine lv_iconst (v := -1) X.1 X.2.1 dX5_numberOfFound_50 (by decide) ?_
            exact tw_iret X hr hlk w h dX5_numberOfFound_51
    · have h := h.2 c4
      refine lv_iconst (v := -1) X.1 X.2.1 dX5_numberOfFound_16 (by decide) ?_
      exact tw_iret X hr hlk w h dX5_numberOfFound_17

abbrev RM_X8_lengthen : Room := { frames := 0, cells := 0, slots := 0, locals := 0 }
def wp_X8_lengthen (g : tw_G) (σ : tw_S) (x0 : Int32) (x1 : Int32) (Q : Int32 → tw_S → Prop) : Prop := ∀ z1, z1 = (((2 : Int32) * x0) + x1) → ((x0 = 0) → Q (0 : Int32) σ) ∧ (¬ (x0 = 0) → ((z1 < (33554432 : Int32)) → Q z1 σ) ∧ (¬ (z1 < (33554432 : Int32)) → Q (0 : Int32) σ))
set_option maxHeartbeats 4000000 in
set_option maxRecDepth 100000 in
theorem ct_X8_lengthen (l : Launch) (D : va_G) (g : tw_G) (hT : tw_T g) (sz : Nat) (σ : tw_S) (x0 : Int32) (x1 : Int32) (Q : Int32 → tw_S → Prop) (h : wp_X8_lengthen g σ x0 x1 Q) : tw_Mi l yX8_lengthen wsX8_lengthen RM_X8_lengthen D g sz σ [.int x0, .int x1] Q := by
  refine Met.ofW (cc := cX8_lengthen) (maxL := 3) (ret := (some .int)) (by decide) rfl ?_
  intro p e s m args below meth c s₁ B hml hv
  obtain ⟨rfl, hsz, hP, hK, hD0⟩ := hv
  subst hsz
  have hr := B.returns
  have hlk := B.notSynchronized
  have X : CallFix p m c cX8_lengthen 3 s _ wsX8_lengthen RX8 := ⟨B.exec, B.bytes, hml, findClass_of_methodNamed B.named, atoms_spec (ws := wsX8_lengthen) B.pre⟩
  have w := tw_w0 hP hD0
  have hl := lv_entry ([.int x0, .int x1]) (n := 3) (Nat.le_of_ble_eq_true rfl)
  rw [lg_entry_eq]
  generalize (lg_sl ([.int x0, .int x1]) ++ List.replicate (3 - (lg_sl ([.int x0, .int x1])).length) Slot.unset).toArray = ls at hl ⊢
  have hl : lv_has ls 3 [(0, .int x0), (1, .int x1)] := hl
  unfold wp_X8_lengthen at h
  refine lv_iconst (v := 2) X.1 X.2.1 dX8_lengthen_0 (by decide) ?_
  refine lv_iload_n X.1 X.2.1 dX8_lengthen_1 rfl (lv_at hl 0 rfl) ?_
  refine lv_imul X.1 X.2.1 dX8_lengthen_2 ?_
  refine lv_iload_n X.1 X.2.1 dX8_lengthen_3 rfl (lv_at hl 1 rfl) ?_
  refine lv_iadd X.1 X.2.1 dX8_lengthen_4 ?_
  refine lv_topi (fun z1 ez1 => ?_)
  have h := h _ ez1
  refine lv_istore_n (lv' := [(2, .int z1), (0, .int x0), (1, .int x1)]) X.1 X.2.1 dX8_lengthen_5 rfl hl (by decide) rfl (fun ls hl => ?_)
  have hl := lv_sub (l' := [(2, .int z1), (0, .int x0)]) hl [0, 1] rfl
  refine lv_iload_n X.1 X.2.1 dX8_lengthen_6 rfl (lv_at hl 1 rfl) ?_
  refine lv_if_eq (tgt := 16) X.1 X.2.1 dX8_lengthen_7 (by decide) (fun c2 => ?_) (fun c2 => ?_)
  · have h := h.1 c2
    refine lv_iconst (v := 0) X.1 X.2.1 dX8_lengthen_16 (by decide) ?_
    refine lv_goto (tgt := 21) X.1 X.2.1 dX8_lengthen_17 (by decide) ?_
    exact tw_iret X hr hlk w h dX8_lengthen_21
  · have h := h.2 c2
    refine lv_iload_n X.1 X.2.1 dX8_lengthen_10 rfl (lv_at hl 0 rfl) ?_
    refine lv_ldc (own := RX8) (v := 33554432) X.1 X.2.1 X.2.2.2.1 (X.2.2.2.2 _ (List.mem_of_getElem? (i := 1) rfl)) dX8_lengthen_11 ?_
    refine lv_icmp_lt (tgt := 20) X.1 X.2.1 dX8_lengthen_13 (by decide) (fun c3 => ?_) (fun c3 => ?_)
    · have h := h.1 c3
      refine lv_iload_n X.1 X.2.1 dX8_lengthen_20 rfl (lv_at hl 0 rfl) ?_
      exact tw_iret X hr hlk w h dX8_lengthen_21
    · have h := h.2 c3
      refine lv_iconst (v := 0) X.1 X.2.1 dX8_lengthen_16 (by decide) ?_
      refine lv_goto (tgt := 21) X.1 X.2.1 dX8_lengthen_17 (by decide) ?_
      exact tw_iret X hr hlk w h dX8_lengthen_21

abbrev RM_X5_markGoods : Room := { frames := 3, cells := 0, slots := 0, locals := 70 }
theorem iw_X5_markGoods_5 : ∀ w ∈ wsX50, w ∈ wsX5_markGoods := fun w h => List.mem_cons_of_mem _ (List.mem_append_left _ (List.mem_append_right _ (h)))
def wl_X5_markGoods_2 (g : tw_G) (a0 : Nat) (Q : tw_S → Prop) (k49 : tw_S → Prop) : Nat → Int32 → tw_S → Prop
  | 0, _, _ => False
  | n + 1, x1, σ => (((tw_I σ a0 14) ≤ x1) → k49  σ) ∧ (¬ ((tw_I σ a0 14) ≤ x1) → (((150 : Int32) ≤ x1) → k49  σ) ∧ (¬ ((150 : Int32) ≤ x1) → wp_X5_firstOff g σ a0 x1 (fun r4 σ3 => wp_X5_goOff g σ3 a0 x1 (3 : Int32) r4 (fun r6 σ5 => ((r6 = (-1 : Int32)) → vp_in x1 150 ∧ ∀ σ9, σ9 = (tw_sA σ5 (tw_R g a0 5) (upd (tw_A σ5 (tw_R g a0 5)) x1.toNatClampNeg (vp_nar .boolean (0 : Int32)))) → wl_X5_markGoods_2 g a0 Q k49 n (x1 + 1) σ9) ∧ (¬ (r6 = (-1 : Int32)) → vp_in x1 150 ∧ ∀ σ11, σ11 = (tw_sA σ5 (tw_R g a0 5) (upd (tw_A σ5 (tw_R g a0 5)) x1.toNatClampNeg (vp_nar .boolean (1 : Int32)))) → wl_X5_markGoods_2 g a0 Q k49 n (x1 + 1) σ11)))))
def wp_X5_markGoods (g : tw_G) (σ : tw_S) (a0 : Nat) (Q : tw_S → Prop) : Prop := ∃ n2, wl_X5_markGoods_2 g a0 Q (fun σ12 => Q σ12) n2 (0 : Int32) σ
set_option maxHeartbeats 4000000 in
set_option maxRecDepth 100000 in
theorem lp_X5_markGoods_2 {p : Program} {l : Launch} {e : Env} {s : State} {m : MethodId} {args : Array Value} {below : List Frame} {meth : Method} {c : Code} {D : va_G} {g : tw_G} (X : CallFix p m c cX5_markGoods 2 s args wsX5_markGoods RX5) (hr : meth.sig.returnType = none) (hlk : meth.locks = false) (hK : tw_k D g s) (hT : tw_T g) {a0 : Nat} (h0 : tw_is g 5 a0) {Q : tw_S → Prop} {k49 : tw_S → Prop}
    (hk49 : ∀  (σ : tw_S) (H : Heap) (locs : List Loc) (ls : Array Slot), k49  σ → tw_w D g (tw_F g s.heap.size) s σ H locs → lv_has ls 2 [] → W p l e RM_X5_markGoods s m args below meth c H locs 0 0 (tw_Qv Q D g below args s) (F0 m 49 ls []))
    : ∀ (n : Nat) (x1 : Int32) (σ : tw_S) (H : Heap) (locs : List Loc) (ls : Array Slot), wl_X5_markGoods_2 g a0 Q k49 n x1 σ → tw_w D g (tw_F g s.heap.size) s σ H locs → lv_has ls 2 [(0, .ref a0), (1, .int x1)] → W p l e RM_X5_markGoods s m args below meth c H locs 0 0 (tw_Qv Q D g below args s) (F0 m 2 ls []) := by
  intro n
  induction n with
  | zero =>
    intro x1 σ H locs ls h w hl
    exact False.elim h
  | succ n ih =>
    intro x1 σ H locs ls h w hl
    rw [wl_X5_markGoods_2] at h
    refine lv_iload_n X.1 X.2.1 dX5_markGoods_2 rfl (lv_at hl 1 rfl) ?_
    refine lv_aload_n X.1 X.2.1 dX5_markGoods_3 rfl (lv_at hl 0 rfl) ?_
    refine tw_get X hK w 5 iw_X5_markGoods_5 h0 (by decide) rfl 14 (by decide) (List.mem_of_getElem? (i := 1) rfl) rfl dX5_markGoods_4 ?_
    refine lv_icmp_ge (tgt := 49) X.1 X.2.1 dX5_markGoods_7 (by decide) (fun c1 => ?_) (fun c1 => ?_)
    · have h := h.1 c1
      exact hk49  σ _ _ ls h w (lv_sub hl [] rfl)
    · have h := h.2 c1
      refine lv_iload_n X.1 X.2.1 dX5_markGoods_10 rfl (lv_at hl 1 rfl) ?_
      refine lv_sipush (v := 150) X.1 X.2.1 dX5_markGoods_11 (by decide) ?_
      refine lv_icmp_ge (tgt := 49) X.1 X.2.1 dX5_markGoods_14 (by decide) (fun c2 => ?_) (fun c2 => ?_)
      · have h := h.1 c2
        exact hk49  σ _ _ ls h w (lv_sub hl [] rfl)
      · have h := h.2 c2
        refine lv_aload_n X.1 X.2.1 dX5_markGoods_17 rfl (lv_at hl 0 rfl) ?_
        refine tw_get X hK w 5 iw_X5_markGoods_5 h0 (by decide) rfl 5 (by decide) (List.mem_of_getElem? (i := 2) rfl) rfl dX5_markGoods_18 ?_
        refine lv_iload_n X.1 X.2.1 dX5_markGoods_21 rfl (lv_at hl 1 rfl) ?_
        refine lv_aload_n X.1 X.2.1 dX5_markGoods_22 rfl (lv_at hl 0 rfl) ?_
        refine lv_iload_n X.1 X.2.1 dX5_markGoods_23 rfl (lv_at hl 1 rfl) ?_
        refine lv_iconst (v := 3) X.1 X.2.1 dX5_markGoods_24 (by decide) ?_
        refine lv_aload_n X.1 X.2.1 dX5_markGoods_25 rfl (lv_at hl 0 rfl) ?_
        refine lv_iload_n X.1 X.2.1 dX5_markGoods_26 rfl (lv_at hl 1 rfl) ?_
        refine tw_ci w (va_runV (As := [.int x1]) (rest := [.int (3 : Int32), .int x1, .ref a0, .int x1, .ref (tw_R g a0 5)]) X (ct_X5_firstOff l D g hT _ σ a0 h0 x1 _ h) (cwV 1 X.2.2.2.2 gX5_markGoods_X5_firstOff rfl rfl rfl (by decide +kernel) ⟨Nat.le_of_ble_eq_true rfl, Nat.le_of_ble_eq_true rfl⟩) (tw_preV hK w h0 (by decide) rfl [.int x1]) rfl rfl hl.1 rfl (lv_room (Nat.le_of_ble_eq_true rfl)) dX5_markGoods_27 ⟨Nat.zero_le _, Nat.zero_le _⟩) (fun r4 σ3 H locs h w => ?_)
        refine tw_ci w (va_runV (As := [.int x1, .int (3 : Int32), .int r4]) (rest := [.int x1, .ref (tw_R g a0 5)]) X (ct_X5_goOff l D g hT _ σ3 a0 h0 x1 (3 : Int32) r4 _ h) (cwV 3 X.2.2.2.2 gX5_markGoods_X5_goOff rfl rfl rfl (by decide +kernel) ⟨Nat.le_of_ble_eq_true rfl, Nat.le_of_ble_eq_true rfl⟩) (tw_preV hK w h0 (by decide) rfl [.int x1, .int (3 : Int32), .int r4]) rfl rfl hl.1 rfl (lv_room (Nat.le_of_ble_eq_true rfl)) dX5_markGoods_30 ⟨Nat.zero_le _, Nat.zero_le _⟩) (fun r6 σ5 H locs h w => ?_)
        refine lv_iconst (v := -1) X.1 X.2.1 dX5_markGoods_33 (by decide) ?_
        refine lv_icmp_eq (tgt := 41) X.1 X.2.1 dX5_markGoods_34 (by decide) (fun c7 => ?_) (fun c7 => ?_)
        · have h := h.1 c7
          refine lv_iconst (v := 0) X.1 X.2.1 dX5_markGoods_41 (by decide) ?_
          obtain ⟨hi8, h⟩ := h
          refine tw_zast X hK w (tw_t_5_5 hT h0) (tw_n_5_5 hT h0) hi8 dX5_markGoods_42 (fun σ9 H locs eσ9 w => ?_)
          have h := h _ eσ9
          refine lv_iinc (v := (x1 + 1)) (lv' := [(1, .int (x1 + 1)), (0, .ref a0)]) X.1 X.2.1 dX5_markGoods_43 hl (k := 1) rfl rfl (by decide) rfl (fun ls hl => ?_)
          refine lv_goto (tgt := 2) X.1 X.2.1 dX5_markGoods_46 (by decide) ?_
          exact ih (x1 + 1) σ9 _ _ ls h w (lv_sub hl [1, 0] rfl)
        · have h := h.2 c7
          refine lv_iconst (v := 1) X.1 X.2.1 dX5_markGoods_37 (by decide) ?_
          refine lv_goto (tgt := 42) X.1 X.2.1 dX5_markGoods_38 (by decide) ?_
          obtain ⟨hi10, h⟩ := h
          refine tw_zast X hK w (tw_t_5_5 hT h0) (tw_n_5_5 hT h0) hi10 dX5_markGoods_42 (fun σ11 H locs eσ11 w => ?_)
          have h := h _ eσ11
          refine lv_iinc (v := (x1 + 1)) (lv' := [(1, .int (x1 + 1)), (0, .ref a0)]) X.1 X.2.1 dX5_markGoods_43 hl (k := 1) rfl rfl (by decide) rfl (fun ls hl => ?_)
          refine lv_goto (tgt := 2) X.1 X.2.1 dX5_markGoods_46 (by decide) ?_
          exact ih (x1 + 1) σ11 _ _ ls h w (lv_sub hl [1, 0] rfl)
set_option maxHeartbeats 4000000 in
set_option maxRecDepth 100000 in
theorem ct_X5_markGoods (l : Launch) (D : va_G) (g : tw_G) (hT : tw_T g) (sz : Nat) (σ : tw_S) (a0 : Nat) (h0 : tw_is g 5 a0) (Q : tw_S → Prop) (h : wp_X5_markGoods g σ a0 Q) : tw_Mv l yX5_markGoods wsX5_markGoods RM_X5_markGoods D g sz σ [.ref a0] Q := by
  refine Met.ofW (cc := cX5_markGoods) (maxL := 2) (ret := none) (by decide) rfl ?_
  intro p e s m args below meth c s₁ B hml hv
  obtain ⟨rfl, hsz, hP, hK, hD0⟩ := hv
  subst hsz
  have hr := B.returns
  have hlk := B.notSynchronized
  have X : CallFix p m c cX5_markGoods 2 s _ wsX5_markGoods RX5 := ⟨B.exec, B.bytes, hml, findClass_of_methodNamed B.named, atoms_spec (ws := wsX5_markGoods) B.pre⟩
  have w := tw_w0 hP hD0
  have hl := lv_entry ([.ref a0]) (n := 2) (Nat.le_of_ble_eq_true rfl)
  rw [lg_entry_eq]
  generalize (lg_sl ([.ref a0]) ++ List.replicate (2 - (lg_sl ([.ref a0])).length) Slot.unset).toArray = ls at hl ⊢
  have hl : lv_has ls 2 [(0, .ref a0)] := hl
  unfold wp_X5_markGoods at h
  refine lv_iconst (v := 0) X.1 X.2.1 dX5_markGoods_0 (by decide) ?_
  refine lv_istore_n (lv' := [(1, .int (0 : Int32)), (0, .ref a0)]) X.1 X.2.1 dX5_markGoods_1 rfl hl (by decide) rfl (fun ls hl => ?_)
  obtain ⟨n2, h⟩ := h
  refine lp_X5_markGoods_2 X hr hlk hK hT h0 (fun σ12 H locs ls h w hl => ?_) n2 (0 : Int32) σ _ _ ls h w (lv_sub hl [1, 0] rfl)
  · skip
    exact tw_vret X hr hlk w h dX5_markGoods_49

abbrev RM_X5_make : Room := { frames := 4, cells := 0, slots := 0, locals := 93 }
theorem iw_X5_make_5 : ∀ w ∈ wsX50, w ∈ wsX5_make := fun w h => List.mem_cons_of_mem _ (List.mem_append_left _ (List.mem_append_right _ (h)))
def wl_X5_make_93 (g : tw_G) (a0 : Nat) (x2 : Int32) (Q : tw_S → Prop) (k134 : tw_S → Prop) : Nat → Int32 → tw_S → Prop
  | 0, _, _ => False
  | n + 1, x3, σ => (((2 : Int32) ≤ x3) → k134  σ) ∧ (¬ ((2 : Int32) ≤ x3) → wp_X5_findBehind g σ a0 x2 x3 (fun σ15 => vp_in x2 150 ∧ wp_X8_lengthen g σ15 (tw_A σ15 (tw_R g a0 6) x2.toNatClampNeg) x3 (fun r18 σ17 => wp_X5_numberOfFound g σ17 a0 r18 (fun r20 σ19 => vp_in (((2 : Int32) * x2) + x3) 300 ∧ ∀ σ22, σ22 = (tw_sA σ19 (tw_R g a0 4) (upd (tw_A σ19 (tw_R g a0 4)) (((2 : Int32) * x2) + x3).toNatClampNeg r20)) → wl_X5_make_93 g a0 x2 Q k134 n (x3 + 1) σ22))))
def wl_X5_make_69 (g : tw_G) (a0 : Nat) (Q : tw_S → Prop) (k140 : tw_S → Prop) : Nat → Int32 → tw_S → Prop
  | 0, _, _ => False
  | n + 1, x2, σ => (((tw_I σ a0 14) ≤ x2) → k140  σ) ∧ (¬ ((tw_I σ a0 14) ≤ x2) → (((150 : Int32) ≤ x2) → k140  σ) ∧ (¬ ((150 : Int32) ≤ x2) → ((¬ (tw_I σ a0 13) = 0) → k140  σ) ∧ (((tw_I σ a0 13) = 0) → ∃ n93, wl_X5_make_93 g a0 x2 Q (fun σ23 => wl_X5_make_69 g a0 Q k140 n (x2 + 1) σ23) n93 (0 : Int32) σ)))
def wp_X5_make (g : tw_G) (σ : tw_S) (a0 : Nat) (a1 : Nat) (Q : tw_S → Prop) : Prop := (((tw_I σ a0 12) = 0) → wp_X3_become g σ (tw_R g a0 0) a1 (fun σ2 => ∀ σ3, σ3 = (tw_sI σ2 a0 12 (1 : Int32)) → ∀ σ4, σ4 = (tw_sI σ3 a0 13 (0 : Int32)) → ∀ σ5, σ5 = (tw_sI σ4 a0 14 (0 : Int32)) → ∀ σ6, σ6 = (tw_sI σ5 a0 15 (0 : Int32)) → wp_J7_fill_53178 g σ6 (tw_R g a0 3) 3125 (-1 : Int32) (fun σ7 => wp_X5_findBehind g σ7 a0 (-1 : Int32) (2 : Int32) (fun σ8 => wp_X5_numberOfFound g σ8 a0 (1 : Int32) (fun r10 σ9 => ∃ n69, wl_X5_make_69 g a0 Q (fun σ24 => wp_X5_markGoods g σ24 a0 (fun σ25 => Q σ25)) n69 (0 : Int32) σ9))))) ∧ (¬ ((tw_I σ a0 12) = 0) → wp_X3_isLike g σ (tw_R g a0 0) a1 (fun r27 σ26 => ((r27 = 0) → wp_X3_become g σ26 (tw_R g a0 0) a1 (fun σ29 => ∀ σ30, σ30 = (tw_sI σ29 a0 12 (1 : Int32)) → ∀ σ31, σ31 = (tw_sI σ30 a0 13 (0 : Int32)) → ∀ σ32, σ32 = (tw_sI σ31 a0 14 (0 : Int32)) → ∀ σ33, σ33 = (tw_sI σ32 a0 15 (0 : Int32)) → wp_J7_fill_53178 g σ33 (tw_R g a0 3) 3125 (-1 : Int32) (fun σ34 => wp_X5_findBehind g σ34 a0 (-1 : Int32) (2 : Int32) (fun σ35 => wp_X5_numberOfFound g σ35 a0 (1 : Int32) (fun r37 σ36 => ∃ n69, wl_X5_make_69 g a0 Q (fun σ38 => wp_X5_markGoods g σ38 a0 (fun σ39 => Q σ39)) n69 (0 : Int32) σ36))))) ∧ (¬ (r27 = 0) → Q σ26)))
set_option maxHeartbeats 4000000 in
set_option maxRecDepth 100000 in
theorem lp_X5_make_93 {p : Program} {l : Launch} {e : Env} {s : State} {m : MethodId} {args : Array Value} {below : List Frame} {meth : Method} {c : Code} {D : va_G} {g : tw_G} (X : CallFix p m c cX5_make 4 s args wsX5_make RX5) (hr : meth.sig.returnType = none) (hlk : meth.locks = false) (hK : tw_k D g s) (hT : tw_T g) {a0 : Nat} {x2 : Int32} (h0 : tw_is g 5 a0) {Q : tw_S → Prop} {k134 : tw_S → Prop}
    (hk134 : ∀  (σ : tw_S) (H : Heap) (locs : List Loc) (ls : Array Slot), k134  σ → tw_w D g (tw_F g s.heap.size) s σ H locs → lv_has ls 4 [(0, .ref a0), (2, .int x2)] → W p l e RM_X5_make s m args below meth c H locs 0 0 (tw_Qv Q D g below args s) (F0 m 134 ls []))
    : ∀ (n : Nat) (x3 : Int32) (σ : tw_S) (H : Heap) (locs : List Loc) (ls : Array Slot), wl_X5_make_93 g a0 x2 Q k134 n x3 σ → tw_w D g (tw_F g s.heap.size) s σ H locs → lv_has ls 4 [(0, .ref a0), (2, .int x2), (3, .int x3)] → W p l e RM_X5_make s m args below meth c H locs 0 0 (tw_Qv Q D g below args s) (F0 m 93 ls []) := by
  intro n
  induction n with
  | zero =>
    intro x3 σ H locs ls h w hl
    exact False.elim h
  | succ n ih =>
    intro x3 σ H locs ls h w hl
    rw [wl_X5_make_93] at h
    refine lv_iload_n X.1 X.2.1 dX5_make_93 rfl (lv_at hl 2 rfl) ?_
    refine lv_iconst (v := 2) X.1 X.2.1 dX5_make_94 (by decide) ?_
    refine lv_icmp_ge (tgt := 134) X.1 X.2.1 dX5_make_95 (by decide) (fun c14 => ?_) (fun c14 => ?_)
    · have h := h.1 c14
      exact hk134  σ _ _ ls h w (lv_sub hl [0, 1] rfl)
    · have h := h.2 c14
      refine lv_aload_n X.1 X.2.1 dX5_make_98 rfl (lv_at hl 0 rfl) ?_
      refine lv_iload_n X.1 X.2.1 dX5_make_99 rfl (lv_at hl 1 rfl) ?_
      refine lv_iload_n X.1 X.2.1 dX5_make_100 rfl (lv_at hl 2 rfl) ?_
      refine tw_cv w (va_runV (As := [.int x2, .int x3]) (rest := []) X (ct_X5_findBehind l D g hT _ σ a0 h0 x2 x3 _ h) (cwV 2 X.2.2.2.2 gX5_make_X5_findBehind rfl rfl rfl (by decide +kernel) ⟨Nat.le_of_ble_eq_true rfl, Nat.le_of_ble_eq_true rfl⟩) (tw_preV hK w h0 (by decide) rfl [.int x2, .int x3]) rfl rfl hl.1 rfl (lv_room (Nat.le_of_ble_eq_true rfl)) dX5_make_101 ⟨Nat.zero_le _, Nat.zero_le _⟩) (fun σ15 H locs h w => ?_)
      refine lv_aload_n X.1 X.2.1 dX5_make_104 rfl (lv_at hl 0 rfl) ?_
      refine tw_get X hK w 5 iw_X5_make_5 h0 (by decide) rfl 4 (by decide) (List.mem_of_getElem? (i := 7) rfl) rfl dX5_make_105 ?_
      refine lv_iconst (v := 2) X.1 X.2.1 dX5_make_108 (by decide) ?_
      refine lv_iload_n X.1 X.2.1 dX5_make_109 rfl (lv_at hl 1 rfl) ?_
      refine lv_imul X.1 X.2.1 dX5_make_110 ?_
      refine lv_iload_n X.1 X.2.1 dX5_make_111 rfl (lv_at hl 2 rfl) ?_
      refine lv_iadd X.1 X.2.1 dX5_make_112 ?_
      refine lv_aload_n X.1 X.2.1 dX5_make_113 rfl (lv_at hl 0 rfl) ?_
      refine lv_aload_n X.1 X.2.1 dX5_make_114 rfl (lv_at hl 0 rfl) ?_
      refine tw_get X hK w 5 iw_X5_make_5 h0 (by decide) rfl 6 (by decide) (List.mem_of_getElem? (i := 8) rfl) rfl dX5_make_115 ?_
      refine lv_iload_n X.1 X.2.1 dX5_make_118 rfl (lv_at hl 1 rfl) ?_
      obtain ⟨hi16, h⟩ := h
      refine tw_iald X hK w (tw_t_5_6 hT h0) (tw_n_5_6 hT h0) hi16 dX5_make_119 ?_
      refine lv_iload_n X.1 X.2.1 dX5_make_120 rfl (lv_at hl 2 rfl) ?_
      refine tw_ci w (va_runSN (As := [.int (tw_A σ15 (tw_R g a0 6) x2.toNatClampNeg), .int x3]) (rest := [.ref a0, .int (((2 : Int32) * x2) + x3), .ref (tw_R g a0 4)]) X (ct_X8_lengthen l D g hT _ σ15 (tw_A σ15 (tw_R g a0 6) x2.toNatClampNeg) x3 _ h) ⟨va_cnB 2 X.2.2.2.2 gX5_make_X8_lengthen_n89 rfl rfl rfl (hK.2 _ (List.mem_of_getElem? (i := 13) rfl)) (X.2.2.2.2 _ (List.mem_of_getElem? (i := 52) rfl)) (by decide +kernel) ⟨Nat.le_of_ble_eq_true rfl, Nat.le_of_ble_eq_true rfl⟩, X.2.2.2.2 _ (List.mem_of_getElem? (i := 75) rfl), trivial⟩ (tw_pre hK w [.int (tw_A σ15 (tw_R g a0 6) x2.toNatClampNeg), .int x3]) rfl rfl hl.1 rfl (lv_room (Nat.le_of_ble_eq_true rfl)) dX5_make_121 ⟨Nat.zero_le _, Nat.zero_le _⟩) (fun r18 σ17 H locs h w => ?_)
      refine tw_ci w (va_runV (As := [.int r18]) (rest := [.int (((2 : Int32) * x2) + x3), .ref (tw_R g a0 4)]) X (ct_X5_numberOfFound l D g hT _ σ17 a0 h0 r18 _ h) (cwV 1 X.2.2.2.2 gX5_make_X5_numberOfFound rfl rfl rfl (by decide +kernel) ⟨Nat.le_of_ble_eq_true rfl, Nat.le_of_ble_eq_true rfl⟩) (tw_preV hK w h0 (by decide) rfl [.int r18]) rfl rfl hl.1 rfl (lv_room (Nat.le_of_ble_eq_true rfl)) dX5_make_124 ⟨Nat.zero_le _, Nat.zero_le _⟩) (fun r20 σ19 H locs h w => ?_)
      obtain ⟨hi21, h⟩ := h
      refine tw_iast X hK w (tw_t_5_4 hT h0) (tw_n_5_4 hT h0) hi21 dX5_make_127 (fun σ22 H locs eσ22 w => ?_)
      have h := h _ eσ22
      refine lv_iinc (v := (x3 + 1)) (lv' := [(3, .int (x3 + 1)), (0, .ref a0), (2, .int x2)]) X.1 X.2.1 dX5_make_128 hl (k := 2) rfl rfl (by decide) rfl (fun ls hl => ?_)
      refine lv_goto (tgt := 93) X.1 X.2.1 dX5_make_131 (by decide) ?_
      exact ih (x3 + 1) σ22 _ _ ls h w (lv_sub hl [1, 2, 0] rfl)
set_option maxHeartbeats 4000000 in
set_option maxRecDepth 100000 in
theorem lp_X5_make_69 {p : Program} {l : Launch} {e : Env} {s : State} {m : MethodId} {args : Array Value} {below : List Frame} {meth : Method} {c : Code} {D : va_G} {g : tw_G} (X : CallFix p m c cX5_make 4 s args wsX5_make RX5) (hr : meth.sig.returnType = none) (hlk : meth.locks = false) (hK : tw_k D g s) (hT : tw_T g) {a0 : Nat} (h0 : tw_is g 5 a0) {Q : tw_S → Prop} {k140 : tw_S → Prop}
    (hk140 : ∀  (σ : tw_S) (H : Heap) (locs : List Loc) (ls : Array Slot), k140  σ → tw_w D g (tw_F g s.heap.size) s σ H locs → lv_has ls 4 [(0, .ref a0)] → W p l e RM_X5_make s m args below meth c H locs 0 0 (tw_Qv Q D g below args s) (F0 m 140 ls []))
    : ∀ (n : Nat) (x2 : Int32) (σ : tw_S) (H : Heap) (locs : List Loc) (ls : Array Slot), wl_X5_make_69 g a0 Q k140 n x2 σ → tw_w D g (tw_F g s.heap.size) s σ H locs → lv_has ls 4 [(0, .ref a0), (2, .int x2)] → W p l e RM_X5_make s m args below meth c H locs 0 0 (tw_Qv Q D g below args s) (F0 m 69 ls []) := by
  intro n
  induction n with
  | zero =>
    intro x2 σ H locs ls h w hl
    exact False.elim h
  | succ n ih =>
    intro x2 σ H locs ls h w hl
    rw [wl_X5_make_69] at h
    refine lv_iload_n X.1 X.2.1 dX5_make_69 rfl (lv_at hl 1 rfl) ?_
    refine lv_aload_n X.1 X.2.1 dX5_make_70 rfl (lv_at hl 0 rfl) ?_
    refine tw_get X hK w 5 iw_X5_make_5 h0 (by decide) rfl 14 (by decide) (List.mem_of_getElem? (i := 4) rfl) rfl dX5_make_71 ?_
    refine lv_icmp_ge (tgt := 140) X.1 X.2.1 dX5_make_74 (by decide) (fun c11 => ?_) (fun c11 => ?_)
    · have h := h.1 c11
      exact hk140  σ _ _ ls h w (lv_sub hl [0] rfl)
    · have h := h.2 c11
      refine lv_iload_n X.1 X.2.1 dX5_make_77 rfl (lv_at hl 1 rfl) ?_
      refine lv_sipush (v := 150) X.1 X.2.1 dX5_make_78 (by decide) ?_
      refine lv_icmp_ge (tgt := 140) X.1 X.2.1 dX5_make_81 (by decide) (fun c12 => ?_) (fun c12 => ?_)
      · have h := h.1 c12
        exact hk140  σ _ _ ls h w (lv_sub hl [0] rfl)
      · have h := h.2 c12
        refine lv_aload_n X.1 X.2.1 dX5_make_84 rfl (lv_at hl 0 rfl) ?_
        refine tw_get X hK w 5 iw_X5_make_5 h0 (by decide) rfl 13 (by decide) (List.mem_of_getElem? (i := 3) rfl) rfl dX5_make_85 ?_
        refine lv_if_ne (tgt := 140) X.1 X.2.1 dX5_make_88 (by decide) (fun c13 => ?_) (fun c13 => ?_)
        · have h := h.1 c13
          exact hk140  σ _ _ ls h w (lv_sub hl [0] rfl)
        · have h := h.2 c13
          refine lv_iconst (v := 0) X.1 X.2.1 dX5_make_91 (by decide) ?_
          refine lv_istore_n (lv' := [(3, .int (0 : Int32)), (0, .ref a0), (2, .int x2)]) X.1 X.2.1 dX5_make_92 rfl hl (by decide) rfl (fun ls hl => ?_)
          obtain ⟨n93, h⟩ := h
          refine lp_X5_make_93 X hr hlk hK hT h0 (fun σ23 H locs ls h w hl => ?_) n93 (0 : Int32) σ _ _ ls h w (lv_sub hl [1, 2, 0] rfl)
          · skip
            refine lv_iinc (v := (x2 + 1)) (lv' := [(2, .int (x2 + 1)), (0, .ref a0)]) X.1 X.2.1 dX5_make_134 hl (k := 1) rfl rfl (by decide) rfl (fun ls hl => ?_)
            refine lv_goto (tgt := 69) X.1 X.2.1 dX5_make_137 (by decide) ?_
            exact ih (x2 + 1) σ23 _ _ ls h w (lv_sub hl [1, 0] rfl)
set_option maxHeartbeats 4000000 in
set_option maxRecDepth 100000 in
theorem ct_X5_make (l : Launch) (D : va_G) (g : tw_G) (hT : tw_T g) (sz : Nat) (σ : tw_S) (a0 : Nat) (h0 : tw_is g 5 a0) (a1 : Nat) (h1 : tw_is g 3 a1) (Q : tw_S → Prop) (h : wp_X5_make g σ a0 a1 Q) : tw_Mv l yX5_make wsX5_make RM_X5_make D g sz σ [.ref a0, .ref a1] Q := by
  refine Met.ofW (cc := cX5_make) (maxL := 4) (ret := none) (by decide) rfl ?_
  intro p e s m args below meth c s₁ B hml hv
  obtain ⟨rfl, hsz, hP, hK, hD0⟩ := hv
  subst hsz
  have hr := B.returns
  have hlk := B.notSynchronized
  have X : CallFix p m c cX5_make 4 s _ wsX5_make RX5 := ⟨B.exec, B.bytes, hml, findClass_of_methodNamed B.named, atoms_spec (ws := wsX5_make) B.pre⟩
  have w := tw_w0 hP hD0
  have hl := lv_entry ([.ref a0, .ref a1]) (n := 4) (Nat.le_of_ble_eq_true rfl)
  rw [lg_entry_eq]
  generalize (lg_sl ([.ref a0, .ref a1]) ++ List.replicate (4 - (lg_sl ([.ref a0, .ref a1])).length) Slot.unset).toArray = ls at hl ⊢
  have hl : lv_has ls 4 [(0, .ref a0), (1, .ref a1)] := hl
  unfold wp_X5_make at h
  refine lv_aload_n X.1 X.2.1 dX5_make_0 rfl (lv_at hl 0 rfl) ?_
  refine tw_get X hK w 5 iw_X5_make_5 h0 (by decide) rfl 12 (by decide) (List.mem_of_getElem? (i := 1) rfl) rfl dX5_make_1 ?_
  refine lv_if_eq (tgt := 19) X.1 X.2.1 dX5_make_4 (by decide) (fun c1 => ?_) (fun c1 => ?_)
  · have h := h.1 c1
    refine lv_aload_n X.1 X.2.1 dX5_make_19 rfl (lv_at hl 0 rfl) ?_
    refine tw_get X hK w 5 iw_X5_make_5 h0 (by decide) rfl 0 (by decide) (List.mem_of_getElem? (i := 2) rfl) rfl dX5_make_20 ?_
    refine lv_aload_n X.1 X.2.1 dX5_make_23 rfl (lv_at hl 1 rfl) ?_
    refine tw_cv w (va_runV (As := [.ref a1]) (rest := []) X (ct_X3_become l D g hT _ σ (tw_R g a0 0) (tw_t_5_0 hT h0) a1 h1 _ h) (cwV 1 X.2.2.2.2 gX5_make_X3_become rfl rfl rfl (by decide +kernel) ⟨Nat.le_of_ble_eq_true rfl, Nat.le_of_ble_eq_true rfl⟩) (tw_preV hK w (tw_t_5_0 hT h0) (by decide) rfl [.ref a1]) rfl rfl hl.1 rfl (lv_room (Nat.le_of_ble_eq_true rfl)) dX5_make_24 ⟨Nat.zero_le _, Nat.zero_le _⟩) (fun σ2 H locs h w => ?_)
    refine lv_aload_n X.1 X.2.1 dX5_make_27 rfl (lv_at hl 0 rfl) ?_
    refine lv_iconst (v := 1) X.1 X.2.1 dX5_make_28 (by decide) ?_
    refine tw_putI X hK w 5 iw_X5_make_5 tyX5 tyX5_ok nmX5 h0 (by decide) rfl 12 (by decide) (List.mem_of_getElem? (i := 1) rfl) rfl (ty := .boolean) (by decide +kernel) (by decide) (by decide) (Nat.le_of_ble_eq_true rfl) (tw_f_5_12 g _ _ _) dX5_make_29 (fun σ3 H locs eσ3 w => ?_)
    have h := h _ eσ3
    refine lv_aload_n X.1 X.2.1 dX5_make_32 rfl (lv_at hl 0 rfl) ?_
    refine lv_iconst (v := 0) X.1 X.2.1 dX5_make_33 (by decide) ?_
    refine tw_putI X hK w 5 iw_X5_make_5 tyX5 tyX5_ok nmX5 h0 (by decide) rfl 13 (by decide) (List.mem_of_getElem? (i := 3) rfl) rfl (ty := .boolean) (by decide +kernel) (by decide) (by decide) (Nat.le_of_ble_eq_true rfl) (tw_f_5_13 g _ _ _) dX5_make_34 (fun σ4 H locs eσ4 w => ?_)
    have h := h _ eσ4
    refine lv_aload_n X.1 X.2.1 dX5_make_37 rfl (lv_at hl 0 rfl) ?_
    refine lv_iconst (v := 0) X.1 X.2.1 dX5_make_38 (by decide) ?_
    refine tw_putI X hK w 5 iw_X5_make_5 tyX5 tyX5_ok nmX5 h0 (by decide) rfl 14 (by decide) (List.mem_of_getElem? (i := 4) rfl) rfl (ty := .int) (by decide +kernel) rfl rfl (Nat.le_of_ble_eq_true rfl) (tw_f_5_14 g _ _ _) dX5_make_39 (fun σ5 H locs eσ5 w => ?_)
    have h := h _ eσ5
    refine lv_aload_n X.1 X.2.1 dX5_make_42 rfl (lv_at hl 0 rfl) ?_
    refine lv_iconst (v := 0) X.1 X.2.1 dX5_make_43 (by decide) ?_
    refine tw_putI X hK w 5 iw_X5_make_5 tyX5 tyX5_ok nmX5 h0 (by decide) rfl 15 (by decide) (List.mem_of_getElem? (i := 5) rfl) rfl (ty := .int) (by decide +kernel) rfl rfl (Nat.le_of_ble_eq_true rfl) (tw_f_5_15 g _ _ _) dX5_make_44 (fun σ6 H locs eσ6 w => ?_)
    have h := h _ eσ6
    refine lv_aload_n X.1 X.2.1 dX5_make_47 rfl (lv_at hl 0 rfl) ?_
    refine tw_get X hK w 5 iw_X5_make_5 h0 (by decide) rfl 3 (by decide) (List.mem_of_getElem? (i := 6) rfl) rfl dX5_make_48 ?_
    refine lv_iconst (v := -1) X.1 X.2.1 dX5_make_51 (by decide) ?_
    refine tw_cv w (va_runS (As := [.ref (tw_R g a0 3), .int (-1 : Int32)]) (rest := []) X (ct_J7_fill_53178 l D g hT _ σ6 (tw_R g a0 3) (tw_t_5_3 hT h0) 3125 (tw_n_5_3 hT h0) (-1 : Int32) _ h) (va_cwS 2 X.2.2.2.2 gX5_make_J7_fill_53178 rfl rfl rfl (by decide +kernel) ⟨Nat.le_of_ble_eq_true rfl, Nat.le_of_ble_eq_true rfl⟩) (tw_pre hK w [.ref (tw_R g a0 3), .int (-1 : Int32)]) rfl rfl hl.1 rfl (lv_room (Nat.le_of_ble_eq_true rfl)) dX5_make_52 ⟨Nat.zero_le _, Nat.zero_le _⟩) (fun σ7 H locs h w => ?_)
    refine lv_aload_n X.1 X.2.1 dX5_make_55 rfl (lv_at hl 0 rfl) ?_
    refine lv_iconst (v := -1) X.1 X.2.1 dX5_make_56 (by decide) ?_
    refine lv_iconst (v := 2) X.1 X.2.1 dX5_make_57 (by decide) ?_
    refine tw_cv w (va_runV (As := [.int (-1 : Int32), .int (2 : Int32)]) (rest := []) X (ct_X5_findBehind l D g hT _ σ7 a0 h0 (-1 : Int32) (2 : Int32) _ h) (cwV 2 X.2.2.2.2 gX5_make_X5_findBehind rfl rfl rfl (by decide +kernel) ⟨Nat.le_of_ble_eq_true rfl, Nat.le_of_ble_eq_true rfl⟩) (tw_preV hK w h0 (by decide) rfl [.int (-1 : Int32), .int (2 : Int32)]) rfl rfl hl.1 rfl (lv_room (Nat.le_of_ble_eq_true rfl)) dX5_make_58 ⟨Nat.zero_le _, Nat.zero_le _⟩) (fun σ8 H locs h w => ?_)
    refine lv_aload_n X.1 X.2.1 dX5_make_61 rfl (lv_at hl 0 rfl) ?_
    refine lv_iconst (v := 1) X.1 X.2.1 dX5_make_62 (by decide) ?_
    refine tw_ci w (va_runV (As := [.int (1 : Int32)]) (rest := []) X (ct_X5_numberOfFound l D g hT _ σ8 a0 h0 (1 : Int32) _ h) (cwV 1 X.2.2.2.2 gX5_make_X5_numberOfFound rfl rfl rfl (by decide +kernel) ⟨Nat.le_of_ble_eq_true rfl, Nat.le_of_ble_eq_true rfl⟩) (tw_preV hK w h0 (by decide) rfl [.int (1 : Int32)]) rfl rfl hl.1 rfl (lv_room (Nat.le_of_ble_eq_true rfl)) dX5_make_63 ⟨Nat.zero_le _, Nat.zero_le _⟩) (fun r10 σ9 H locs h w => ?_)
    refine lv_pop X.1 X.2.1 dX5_make_66 rfl ?_
    refine lv_iconst (v := 0) X.1 X.2.1 dX5_make_67 (by decide) ?_
    refine lv_istore_n (lv' := [(2, .int (0 : Int32)), (0, .ref a0), (1, .ref a1)]) X.1 X.2.1 dX5_make_68 rfl hl (by decide) rfl (fun ls hl => ?_)
    have hl := lv_sub (l' := [(2, .int (0 : Int32)), (0, .ref a0)]) hl [0, 1] rfl
    obtain ⟨n69, h⟩ := h
    refine lp_X5_make_69 X hr hlk hK hT h0 (fun σ24 H locs ls h w hl => ?_) n69 (0 : Int32) σ9 _ _ ls h w (lv_sub hl [1, 0] rfl)
    · skip
      refine lv_aload_n X.1 X.2.1 dX5_make_140 rfl (lv_at hl 0 rfl) ?_
      refine tw_cv w (va_runV (As := []) (rest := []) X (ct_X5_markGoods l D g hT _ σ24 a0 h0 _ h) (cwV 0 X.2.2.2.2 gX5_make_X5_markGoods rfl rfl rfl (by decide +kernel) ⟨Nat.le_of_ble_eq_true rfl, Nat.le_of_ble_eq_true rfl⟩) (tw_preV hK w h0 (by decide) rfl []) rfl rfl hl.1 rfl (lv_room (Nat.le_of_ble_eq_true rfl)) dX5_make_141 ⟨Nat.zero_le _, Nat.zero_le _⟩) (fun σ25 H locs h w => ?_)
      exact tw_vret X hr hlk w h dX5_make_144
  · have h := h.2 c1
    refine lv_aload_n X.1 X.2.1 dX5_make_7 rfl (lv_at hl 0 rfl) ?_
    refine tw_get X hK w 5 iw_X5_make_5 h0 (by decide) rfl 0 (by decide) (List.mem_of_getElem? (i := 2) rfl) rfl dX5_make_8 ?_
    refine lv_aload_n X.1 X.2.1 dX5_make_11 rfl (lv_at hl 1 rfl) ?_
    refine tw_ci w (va_runV (As := [.ref a1]) (rest := []) X (ct_X3_isLike l D g hT _ σ (tw_R g a0 0) (tw_t_5_0 hT h0) a1 h1 _ h) (cwV 1 X.2.2.2.2 gX5_make_X3_isLike rfl rfl rfl (by decide +kernel) ⟨Nat.le_of_ble_eq_true rfl, Nat.le_of_ble_eq_true rfl⟩) (tw_preV hK w (tw_t_5_0 hT h0) (by decide) rfl [.ref a1]) rfl rfl hl.1 rfl (lv_room (Nat.le_of_ble_eq_true rfl)) dX5_make_12 ⟨Nat.zero_le _, Nat.zero_le _⟩) (fun r27 σ26 H locs h w => ?_)
    refine lv_if_eq (tgt := 19) X.1 X.2.1 dX5_make_15 (by decide) (fun c28 => ?_) (fun c28 => ?_)
    · have h := h.1 c28
      refine lv_aload_n X.1 X.2.1 dX5_make_19 rfl (lv_at hl 0 rfl) ?_
      refine tw_get X hK w 5 iw_X5_make_5 h0 (by decide) rfl 0 (by decide) (List.mem_of_getElem? (i := 2) rfl) rfl dX5_make_20 ?_
      refine lv_aload_n X.1 X.2.1 dX5_make_23 rfl (lv_at hl 1 rfl) ?_
      refine tw_cv w (va_runV (As := [.ref a1]) (rest := []) X (ct_X3_become l D g hT _ σ26 (tw_R g a0 0) (tw_t_5_0 hT h0) a1 h1 _ h) (cwV 1 X.2.2.2.2 gX5_make_X3_become rfl rfl rfl (by decide +kernel) ⟨Nat.le_of_ble_eq_true rfl, Nat.le_of_ble_eq_true rfl⟩) (tw_preV hK w (tw_t_5_0 hT h0) (by decide) rfl [.ref a1]) rfl rfl hl.1 rfl (lv_room (Nat.le_of_ble_eq_true rfl)) dX5_make_24 ⟨Nat.zero_le _, Nat.zero_le _⟩) (fun σ29 H locs h w => ?_)
      refine lv_aload_n X.1 X.2.1 dX5_make_27 rfl (lv_at hl 0 rfl) ?_
      refine lv_iconst (v := 1) X.1 X.2.1 dX5_make_28 (by decide) ?_
      refine tw_putI X hK w 5 iw_X5_make_5 tyX5 tyX5_ok nmX5 h0 (by decide) rfl 12 (by decide) (List.mem_of_getElem? (i := 1) rfl) rfl (ty := .boolean) (by decide +kernel) (by decide) (by decide) (Nat.le_of_ble_eq_true rfl) (tw_f_5_12 g _ _ _) dX5_make_29 (fun σ30 H locs eσ30 w => ?_)
      have h := h _ eσ30
      refine lv_aload_n X.1 X.2.1 dX5_make_32 rfl (lv_at hl 0 rfl) ?_
      refine lv_iconst (v := 0) X.1 X.2.1 dX5_make_33 (by decide) ?_
      refine tw_putI X hK w 5 iw_X5_make_5 tyX5 tyX5_ok nmX5 h0 (by decide) rfl 13 (by decide) (List.mem_of_getElem? (i := 3) rfl) rfl (ty := .boolean) (by decide +kernel) (by decide) (by decide) (Nat.le_of_ble_eq_true rfl) (tw_f_5_13 g _ _ _) dX5_make_34 (fun σ31 H locs eσ31 w => ?_)
      have h := h _ eσ31
      refine lv_aload_n X.1 X.2.1 dX5_make_37 rfl (lv_at hl 0 rfl) ?_
      refine lv_iconst (v := 0) X.1 X.2.1 dX5_make_38 (by decide) ?_
      refine tw_putI X hK w 5 iw_X5_make_5 tyX5 tyX5_ok nmX5 h0 (by decide) rfl 14 (by decide) (List.mem_of_getElem? (i := 4) rfl) rfl (ty := .int) (by decide +kernel) rfl rfl (Nat.le_of_ble_eq_true rfl) (tw_f_5_14 g _ _ _) dX5_make_39 (fun σ32 H locs eσ32 w => ?_)
      have h := h _ eσ32
      refine lv_aload_n X.1 X.2.1 dX5_make_42 rfl (lv_at hl 0 rfl) ?_
      refine lv_iconst (v := 0) X.1 X.2.1 dX5_make_43 (by decide) ?_
      refine tw_putI X hK w 5 iw_X5_make_5 tyX5 tyX5_ok nmX5 h0 (by decide) rfl 15 (by decide) (List.mem_of_getElem? (i := 5) rfl) rfl (ty := .int) (by decide +kernel) rfl rfl (Nat.le_of_ble_eq_true rfl) (tw_f_5_15 g _ _ _) dX5_make_44 (fun σ33 H locs eσ33 w => ?_)
      have h := h _ eσ33
      refine lv_aload_n X.1 X.2.1 dX5_make_47 rfl (lv_at hl 0 rfl) ?_
      refine tw_get X hK w 5 iw_X5_make_5 h0 (by decide) rfl 3 (by decide) (List.mem_of_getElem? (i := 6) rfl) rfl dX5_make_48 ?_
      refine lv_iconst (v := -1) X.1 X.2.1 dX5_make_51 (by decide) ?_
      refine tw_cv w (va_runS (As := [.ref (tw_R g a0 3), .int (-1 : Int32)]) (rest := []) X (ct_J7_fill_53178 l D g hT _ σ33 (tw_R g a0 3) (tw_t_5_3 hT h0) 3125 (tw_n_5_3 hT h0) (-1 : Int32) _ h) (va_cwS 2 X.2.2.2.2 gX5_make_J7_fill_53178 rfl rfl rfl (by decide +kernel) ⟨Nat.le_of_ble_eq_true rfl, Nat.le_of_ble_eq_true rfl⟩) (tw_pre hK w [.ref (tw_R g a0 3), .int (-1 : Int32)]) rfl rfl hl.1 rfl (lv_room (Nat.le_of_ble_eq_true rfl)) dX5_make_52 ⟨Nat.zero_le _, Nat.zero_le _⟩) (fun σ34 H locs h w => ?_)
      refine lv_aload_n X.1 X.2.1 dX5_make_55 rfl (lv_at hl 0 rfl) ?_
      refine lv_iconst (v := -1) X.1 X.2.1 dX5_make_56 (by decide) ?_
      refine lv_iconst (v := 2) X.1 X.2.1 dX5_make_57 (by decide) ?_
      refine tw_cv w (va_runV (As := [.int (-1 : Int32), .int (2 : Int32)]) (rest := []) X (ct_X5_findBehind l D g hT _ σ34 a0 h0 (-1 : Int32) (2 : Int32) _ h) (cwV 2 X.2.2.2.2 gX5_make_X5_findBehind rfl rfl rfl (by decide +kernel) ⟨Nat.le_of_ble_eq_true rfl, Nat.le_of_ble_eq_true rfl⟩) (tw_preV hK w h0 (by decide) rfl [.int (-1 : Int32), .int (2 : Int32)]) rfl rfl hl.1 rfl (lv_room (Nat.le_of_ble_eq_true rfl)) dX5_make_58 ⟨Nat.zero_le _, Nat.zero_le _⟩) (fun σ35 H locs h w => ?_)
      refine lv_aload_n X.1 X.2.1 dX5_make_61 rfl (lv_at hl 0 rfl) ?_
      refine lv_iconst (v := 1) X.1 X.2.1 dX5_make_62 (by decide) ?_
      refine tw_ci w (va_runV (As := [.int (1 : Int32)]) (rest := []) X (ct_X5_numberOfFound l D g hT _ σ35 a0 h0 (1 : Int32) _ h) (cwV 1 X.2.2.2.2 gX5_make_X5_numberOfFound rfl rfl rfl (by decide +kernel) ⟨Nat.le_of_ble_eq_true rfl, Nat.le_of_ble_eq_true rfl⟩) (tw_preV hK w h0 (by decide) rfl [.int (1 : Int32)]) rfl rfl hl.1 rfl (lv_room (Nat.le_of_ble_eq_true rfl)) dX5_make_63 ⟨Nat.zero_le _, Nat.zero_le _⟩) (fun r37 σ36 H locs h w => ?_)
      refine lv_pop X.1 X.2.1 dX5_make_66 rfl ?_
      refine lv_iconst (v := 0) X.1 X.2.1 dX5_make_67 (by decide) ?_
      refine lv_istore_n (lv' := [(2, .int (0 : Int32)), (0, .ref a0), (1, .ref a1)]) X.1 X.2.1 dX5_make_68 rfl hl (by decide) rfl (fun ls hl => ?_)
      have hl := lv_sub (l' := [(2, .int (0 : Int32)), (0, .ref a0)]) hl [0, 1] rfl
      obtain ⟨n69, h⟩ := h
      refine lp_X5_make_69 X hr hlk hK hT h0 (fun σ38 H locs ls h w hl => ?_) n69 (0 : Int32) σ36 _ _ ls h w (lv_sub hl [1, 0] rfl)
      · skip
        refine lv_aload_n X.1 X.2.1 dX5_make_140 rfl (lv_at hl 0 rfl) ?_
        refine tw_cv w (va_runV (As := []) (rest := []) X (ct_X5_markGoods l D g hT _ σ38 a0 h0 _ h) (cwV 0 X.2.2.2.2 gX5_make_X5_markGoods rfl rfl rfl (by decide +kernel) ⟨Nat.le_of_ble_eq_true rfl, Nat.le_of_ble_eq_true rfl⟩) (tw_preV hK w h0 (by decide) rfl []) rfl rfl hl.1 rfl (lv_room (Nat.le_of_ble_eq_true rfl)) dX5_make_141 ⟨Nat.zero_le _, Nat.zero_le _⟩) (fun σ39 H locs h w => ?_)
        exact tw_vret X hr hlk w h dX5_make_144
    · have h := h.2 c28
      exact tw_vret X hr hlk w h dX5_make_18
